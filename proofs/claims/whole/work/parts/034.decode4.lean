theorem dX9_its_0 : decode cX9_its 0 = .ok (.aload_n 0, 1) := by decide +kernel
theorem dX9_its_1 : decode cX9_its 1 = .ok (.getfield 91, 3) := by decide +kernel
theorem dX9_its_4 : decode cX9_its 4 = .ok (.sipush 610, 3) := by decide +kernel
theorem dX9_its_7 : decode cX9_its 7 = .ok (.bipush 9, 2) := by decide +kernel
theorem dX9_its_9 : decode cX9_its 9 = .ok (.iload_n 1, 1) := by decide +kernel
theorem dX9_its_10 : decode cX9_its 10 = .ok (.imul, 1) := by decide +kernel
theorem dX9_its_11 : decode cX9_its 11 = .ok (.iadd, 1) := by decide +kernel
theorem dX9_its_12 : decode cX9_its 12 = .ok (.iload_n 2, 1) := by decide +kernel
theorem dX9_its_13 : decode cX9_its 13 = .ok (.iadd, 1) := by decide +kernel
theorem dX9_its_14 : decode cX9_its 14 = .ok (.iaload, 1) := by decide +kernel
theorem dX9_its_15 : decode cX9_its 15 = .ok (.ireturn, 1) := by decide +kernel
theorem dX9_waits_0 : decode cX9_waits 0 = .ok (.aload_n 0, 1) := by decide +kernel
theorem dX9_waits_1 : decode cX9_waits 1 = .ok (.iload_n 1, 1) := by decide +kernel
theorem dX9_waits_2 : decode cX9_waits 2 = .ok (.iconst 0, 1) := by decide +kernel
theorem dX9_waits_3 : decode cX9_waits 3 = .ok (.invokevirtual 160, 3) := by decide +kernel
theorem dX9_waits_6 : decode cX9_waits 6 = .ok (.istore_n 2, 1) := by decide +kernel
theorem dX9_waits_7 : decode cX9_waits 7 = .ok (.iconst 0, 1) := by decide +kernel
theorem dX9_waits_8 : decode cX9_waits 8 = .ok (.istore_n 3, 1) := by decide +kernel
theorem dX9_waits_9 : decode cX9_waits 9 = .ok (.iconst 0, 1) := by decide +kernel
theorem dX9_waits_10 : decode cX9_waits 10 = .ok (.istore 4, 2) := by decide +kernel
theorem dX9_waits_12 : decode cX9_waits 12 = .ok (.iload 4, 2) := by decide +kernel
theorem dX9_waits_14 : decode cX9_waits 14 = .ok (.aload_n 0, 1) := by decide +kernel
theorem dX9_waits_15 : decode cX9_waits 15 = .ok (.iload_n 2, 1) := by decide +kernel
theorem dX9_waits_16 : decode cX9_waits 16 = .ok (.bipush 6, 2) := by decide +kernel
theorem dX9_waits_18 : decode cX9_waits 18 = .ok (.invokevirtual 199, 3) := by decide +kernel
theorem dX9_waits_21 : decode cX9_waits 21 = .ok (.if_icmp .ge 61, 3) := by decide +kernel
theorem dX9_waits_24 : decode cX9_waits 24 = .ok (.aload_n 0, 1) := by decide +kernel
theorem dX9_waits_25 : decode cX9_waits 25 = .ok (.iload_n 2, 1) := by decide +kernel
theorem dX9_waits_26 : decode cX9_waits 26 = .ok (.bipush 8, 2) := by decide +kernel
theorem dX9_waits_28 : decode cX9_waits 28 = .ok (.iconst 2, 1) := by decide +kernel
theorem dX9_waits_29 : decode cX9_waits 29 = .ok (.iload 4, 2) := by decide +kernel
theorem dX9_waits_31 : decode cX9_waits 31 = .ok (.imul, 1) := by decide +kernel
theorem dX9_waits_32 : decode cX9_waits 32 = .ok (.iadd, 1) := by decide +kernel
theorem dX9_waits_33 : decode cX9_waits 33 = .ok (.invokevirtual 199, 3) := by decide +kernel
theorem dX9_waits_36 : decode cX9_waits 36 = .ok (.istore 5, 2) := by decide +kernel
theorem dX9_waits_38 : decode cX9_waits 38 = .ok (.aload_n 0, 1) := by decide +kernel
theorem dX9_waits_39 : decode cX9_waits 39 = .ok (.iload_n 2, 1) := by decide +kernel
theorem dX9_waits_40 : decode cX9_waits 40 = .ok (.bipush 7, 2) := by decide +kernel
theorem dX9_waits_42 : decode cX9_waits 42 = .ok (.iconst 2, 1) := by decide +kernel
theorem dX9_waits_43 : decode cX9_waits 43 = .ok (.iload 4, 2) := by decide +kernel
theorem dX9_waits_45 : decode cX9_waits 45 = .ok (.imul, 1) := by decide +kernel
theorem dX9_waits_46 : decode cX9_waits 46 = .ok (.iadd, 1) := by decide +kernel
theorem dX9_waits_47 : decode cX9_waits 47 = .ok (.invokevirtual 199, 3) := by decide +kernel
theorem dX9_waits_50 : decode cX9_waits 50 = .ok (.ifCond .le 26, 3) := by decide +kernel
theorem dX9_waits_53 : decode cX9_waits 53 = .ok (.aload_n 0, 1) := by decide +kernel
theorem dX9_waits_54 : decode cX9_waits 54 = .ok (.iload 5, 2) := by decide +kernel
theorem dX9_waits_56 : decode cX9_waits 56 = .ok (.aload_n 0, 1) := by decide +kernel
theorem dX9_waits_57 : decode cX9_waits 57 = .ok (.iload_n 1, 1) := by decide +kernel
theorem dX9_waits_58 : decode cX9_waits 58 = .ok (.iconst 4, 1) := by decide +kernel
theorem dX9_waits_59 : decode cX9_waits 59 = .ok (.invokevirtual 160, 3) := by decide +kernel
theorem dX9_waits_62 : decode cX9_waits 62 = .ok (.invokevirtual 156, 3) := by decide +kernel
theorem dX9_waits_65 : decode cX9_waits 65 = .ok (.iconst 2, 1) := by decide +kernel
theorem dX9_waits_66 : decode cX9_waits 66 = .ok (.if_icmp .eq 10, 3) := by decide +kernel
theorem dX9_waits_69 : decode cX9_waits 69 = .ok (.iload_n 3, 1) := by decide +kernel
theorem dX9_waits_70 : decode cX9_waits 70 = .ok (.iconst 1, 1) := by decide +kernel
theorem dX9_waits_71 : decode cX9_waits 71 = .ok (.iload 5, 2) := by decide +kernel
theorem dX9_waits_73 : decode cX9_waits 73 = .ok (.ishl, 1) := by decide +kernel
theorem dX9_waits_74 : decode cX9_waits 74 = .ok (.ior, 1) := by decide +kernel
theorem dX9_waits_75 : decode cX9_waits 75 = .ok (.istore_n 3, 1) := by decide +kernel
theorem dX9_waits_76 : decode cX9_waits 76 = .ok (.iinc 4 1, 3) := by decide +kernel
theorem dX9_waits_79 : decode cX9_waits 79 = .ok (.goto (-67), 3) := by decide +kernel
theorem dX9_waits_82 : decode cX9_waits 82 = .ok (.iload_n 3, 1) := by decide +kernel
theorem dX9_waits_83 : decode cX9_waits 83 = .ok (.ireturn, 1) := by decide +kernel
theorem dX9_delivery_0 : decode cX9_delivery 0 = .ok (.aload_n 0, 1) := by decide +kernel
theorem dX9_delivery_1 : decode cX9_delivery 1 = .ok (.iconst 0, 1) := by decide +kernel
theorem dX9_delivery_2 : decode cX9_delivery 2 = .ok (.putfield 1, 3) := by decide +kernel
theorem dX9_delivery_5 : decode cX9_delivery 5 = .ok (.aload_n 0, 1) := by decide +kernel
theorem dX9_delivery_6 : decode cX9_delivery 6 = .ok (.iload_n 1, 1) := by decide +kernel
theorem dX9_delivery_7 : decode cX9_delivery 7 = .ok (.invokevirtual 221, 3) := by decide +kernel
theorem dX9_delivery_10 : decode cX9_delivery 10 = .ok (.ifCond .eq 13, 3) := by decide +kernel
theorem dX9_delivery_13 : decode cX9_delivery 13 = .ok (.iload_n 2, 1) := by decide +kernel
theorem dX9_delivery_14 : decode cX9_delivery 14 = .ok (.iconst 0, 1) := by decide +kernel
theorem dX9_delivery_15 : decode cX9_delivery 15 = .ok (.bipush 8, 2) := by decide +kernel
theorem dX9_delivery_17 : decode cX9_delivery 17 = .ok (.invokestatic 107, 3) := by decide +kernel
theorem dX9_delivery_20 : decode cX9_delivery 20 = .ok (.ifCond .ne 5, 3) := by decide +kernel
theorem dX9_delivery_23 : decode cX9_delivery 23 = .ok (.iconst (-1), 1) := by decide +kernel
theorem dX9_delivery_24 : decode cX9_delivery 24 = .ok (.ireturn, 1) := by decide +kernel
theorem dX9_delivery_25 : decode cX9_delivery 25 = .ok (.iload_n 2, 1) := by decide +kernel
theorem dX9_delivery_26 : decode cX9_delivery 26 = .ok (.bipush 8, 2) := by decide +kernel
theorem dX9_delivery_28 : decode cX9_delivery 28 = .ok (.if_icmp .ne 26, 3) := by decide +kernel
theorem dX9_delivery_31 : decode cX9_delivery 31 = .ok (.aload_n 0, 1) := by decide +kernel
theorem dX9_delivery_32 : decode cX9_delivery 32 = .ok (.iload_n 1, 1) := by decide +kernel
theorem dX9_delivery_33 : decode cX9_delivery 33 = .ok (.bipush 6, 2) := by decide +kernel
theorem dX9_delivery_35 : decode cX9_delivery 35 = .ok (.invokevirtual 160, 3) := by decide +kernel
theorem dX9_delivery_38 : decode cX9_delivery 38 = .ok (.iconst 1, 1) := by decide +kernel
theorem dX9_delivery_39 : decode cX9_delivery 39 = .ok (.if_icmp .ne 7, 3) := by decide +kernel
theorem dX9_delivery_42 : decode cX9_delivery 42 = .ok (.iconst 0, 1) := by decide +kernel
theorem dX9_delivery_43 : decode cX9_delivery 43 = .ok (.goto 17, 3) := by decide +kernel
theorem dX9_delivery_46 : decode cX9_delivery 46 = .ok (.aload_n 0, 1) := by decide +kernel
theorem dX9_delivery_47 : decode cX9_delivery 47 = .ok (.iload_n 1, 1) := by decide +kernel
theorem dX9_delivery_48 : decode cX9_delivery 48 = .ok (.invokevirtual 224, 3) := by decide +kernel
theorem dX9_delivery_51 : decode cX9_delivery 51 = .ok (.goto 9, 3) := by decide +kernel
theorem dX9_delivery_54 : decode cX9_delivery 54 = .ok (.aload_n 0, 1) := by decide +kernel
theorem dX9_delivery_55 : decode cX9_delivery 55 = .ok (.iload_n 1, 1) := by decide +kernel
theorem dX9_delivery_56 : decode cX9_delivery 56 = .ok (.iload_n 2, 1) := by decide +kernel
theorem dX9_delivery_57 : decode cX9_delivery 57 = .ok (.invokevirtual 160, 3) := by decide +kernel
theorem dX9_delivery_60 : decode cX9_delivery 60 = .ok (.ireturn, 1) := by decide +kernel
theorem dX9_billed_0 : decode cX9_billed 0 = .ok (.aload_n 0, 1) := by decide +kernel
theorem dX9_billed_1 : decode cX9_billed 1 = .ok (.iload_n 1, 1) := by decide +kernel
theorem dX9_billed_2 : decode cX9_billed 2 = .ok (.iconst 3, 1) := by decide +kernel
theorem dX9_billed_3 : decode cX9_billed 3 = .ok (.invokevirtual 160, 3) := by decide +kernel
theorem dX9_billed_6 : decode cX9_billed 6 = .ok (.i2l, 1) := by decide +kernel
theorem dX9_billed_7 : decode cX9_billed 7 = .ok (.aload_n 0, 1) := by decide +kernel
theorem dX9_billed_8 : decode cX9_billed 8 = .ok (.iload_n 1, 1) := by decide +kernel
theorem dX9_billed_9 : decode cX9_billed 9 = .ok (.iconst 5, 1) := by decide +kernel
theorem dX9_billed_10 : decode cX9_billed 10 = .ok (.invokevirtual 160, 3) := by decide +kernel
theorem dX9_billed_13 : decode cX9_billed 13 = .ok (.i2l, 1) := by decide +kernel
theorem dX9_billed_14 : decode cX9_billed 14 = .ok (.lmul, 1) := by decide +kernel
theorem dX9_billed_15 : decode cX9_billed 15 = .ok (.lreturn, 1) := by decide +kernel
theorem dX9_amount_0 : decode cX9_amount 0 = .ok (.aload_n 0, 1) := by decide +kernel
theorem dX9_amount_1 : decode cX9_amount 1 = .ok (.iconst 0, 1) := by decide +kernel
theorem dX9_amount_2 : decode cX9_amount 2 = .ok (.putfield 1, 3) := by decide +kernel
theorem dX9_amount_5 : decode cX9_amount 5 = .ok (.aload_n 0, 1) := by decide +kernel
theorem dX9_amount_6 : decode cX9_amount 6 = .ok (.iload_n 1, 1) := by decide +kernel
theorem dX9_amount_7 : decode cX9_amount 7 = .ok (.invokevirtual 221, 3) := by decide +kernel
theorem dX9_amount_10 : decode cX9_amount 10 = .ok (.ifCond .eq 12, 3) := by decide +kernel
theorem dX9_amount_13 : decode cX9_amount 13 = .ok (.iload_n 2, 1) := by decide +kernel
theorem dX9_amount_14 : decode cX9_amount 14 = .ok (.iconst 0, 1) := by decide +kernel
theorem dX9_amount_15 : decode cX9_amount 15 = .ok (.iconst 2, 1) := by decide +kernel
theorem dX9_amount_16 : decode cX9_amount 16 = .ok (.invokestatic 107, 3) := by decide +kernel
theorem dX9_amount_19 : decode cX9_amount 19 = .ok (.ifCond .ne 9, 3) := by decide +kernel
theorem dX9_amount_22 : decode cX9_amount 22 = .ok (.aload_n 0, 1) := by decide +kernel
theorem dX9_amount_23 : decode cX9_amount 23 = .ok (.invokevirtual 190, 3) := by decide +kernel
theorem dX9_amount_26 : decode cX9_amount 26 = .ok (.i2l, 1) := by decide +kernel
theorem dX9_amount_27 : decode cX9_amount 27 = .ok (.lreturn, 1) := by decide +kernel
theorem dX9_amount_28 : decode cX9_amount 28 = .ok (.iload_n 2, 1) := by decide +kernel
theorem dX9_amount_29 : decode cX9_amount 29 = .ok (.ifCond .ne 11, 3) := by decide +kernel
theorem dX9_amount_32 : decode cX9_amount 32 = .ok (.aload_n 0, 1) := by decide +kernel
theorem dX9_amount_33 : decode cX9_amount 33 = .ok (.iload_n 1, 1) := by decide +kernel
theorem dX9_amount_34 : decode cX9_amount 34 = .ok (.invokevirtual 227, 3) := by decide +kernel
theorem dX9_amount_37 : decode cX9_amount 37 = .ok (.goto 33, 3) := by decide +kernel
theorem dX9_amount_40 : decode cX9_amount 40 = .ok (.iload_n 2, 1) := by decide +kernel
theorem dX9_amount_41 : decode cX9_amount 41 = .ok (.iconst 1, 1) := by decide +kernel
theorem dX9_amount_42 : decode cX9_amount 42 = .ok (.if_icmp .ne 14, 3) := by decide +kernel
theorem dX9_amount_45 : decode cX9_amount 45 = .ok (.aload_n 0, 1) := by decide +kernel
theorem dX9_amount_46 : decode cX9_amount 46 = .ok (.iload_n 1, 1) := by decide +kernel
theorem dX9_amount_47 : decode cX9_amount 47 = .ok (.bipush 8, 2) := by decide +kernel
theorem dX9_amount_49 : decode cX9_amount 49 = .ok (.invokevirtual 160, 3) := by decide +kernel
theorem dX9_amount_52 : decode cX9_amount 52 = .ok (.i2l, 1) := by decide +kernel
theorem dX9_amount_53 : decode cX9_amount 53 = .ok (.goto 17, 3) := by decide +kernel
theorem dX9_amount_56 : decode cX9_amount 56 = .ok (.aload_n 0, 1) := by decide +kernel
theorem dX9_amount_57 : decode cX9_amount 57 = .ok (.iload_n 1, 1) := by decide +kernel
theorem dX9_amount_58 : decode cX9_amount 58 = .ok (.invokevirtual 227, 3) := by decide +kernel
theorem dX9_amount_61 : decode cX9_amount 61 = .ok (.aload_n 0, 1) := by decide +kernel
theorem dX9_amount_62 : decode cX9_amount 62 = .ok (.iload_n 1, 1) := by decide +kernel
theorem dX9_amount_63 : decode cX9_amount 63 = .ok (.bipush 8, 2) := by decide +kernel
theorem dX9_amount_65 : decode cX9_amount 65 = .ok (.invokevirtual 160, 3) := by decide +kernel
theorem dX9_amount_68 : decode cX9_amount 68 = .ok (.i2l, 1) := by decide +kernel
theorem dX9_amount_69 : decode cX9_amount 69 = .ok (.ladd, 1) := by decide +kernel
theorem dX9_amount_70 : decode cX9_amount 70 = .ok (.lreturn, 1) := by decide +kernel
theorem dX9_statement_0 : decode cX9_statement 0 = .ok (.aload_n 0, 1) := by decide +kernel
theorem dX9_statement_1 : decode cX9_statement 1 = .ok (.iconst 0, 1) := by decide +kernel
theorem dX9_statement_2 : decode cX9_statement 2 = .ok (.putfield 1, 3) := by decide +kernel
theorem dX9_statement_5 : decode cX9_statement 5 = .ok (.iload_n 1, 1) := by decide +kernel
theorem dX9_statement_6 : decode cX9_statement 6 = .ok (.invokestatic 172, 3) := by decide +kernel
theorem dX9_statement_9 : decode cX9_statement 9 = .ok (.ifCond .eq 12, 3) := by decide +kernel
theorem dX9_statement_12 : decode cX9_statement 12 = .ok (.iload_n 2, 1) := by decide +kernel
theorem dX9_statement_13 : decode cX9_statement 13 = .ok (.iconst 0, 1) := by decide +kernel
theorem dX9_statement_14 : decode cX9_statement 14 = .ok (.iconst 3, 1) := by decide +kernel
theorem dX9_statement_15 : decode cX9_statement 15 = .ok (.invokestatic 107, 3) := by decide +kernel
theorem dX9_statement_18 : decode cX9_statement 18 = .ok (.ifCond .ne 9, 3) := by decide +kernel
theorem dX9_statement_21 : decode cX9_statement 21 = .ok (.aload_n 0, 1) := by decide +kernel
theorem dX9_statement_22 : decode cX9_statement 22 = .ok (.invokevirtual 190, 3) := by decide +kernel
theorem dX9_statement_25 : decode cX9_statement 25 = .ok (.i2l, 1) := by decide +kernel
theorem dX9_statement_26 : decode cX9_statement 26 = .ok (.lreturn, 1) := by decide +kernel
theorem dX9_statement_27 : decode cX9_statement 27 = .ok (.lconst 0, 1) := by decide +kernel
theorem dX9_statement_28 : decode cX9_statement 28 = .ok (.lstore_n 3, 1) := by decide +kernel
theorem dX9_statement_29 : decode cX9_statement 29 = .ok (.iconst 0, 1) := by decide +kernel
theorem dX9_statement_30 : decode cX9_statement 30 = .ok (.istore 5, 2) := by decide +kernel
theorem dX9_statement_32 : decode cX9_statement 32 = .ok (.iload 5, 2) := by decide +kernel
theorem dX9_statement_34 : decode cX9_statement 34 = .ok (.aload_n 0, 1) := by decide +kernel
theorem dX9_statement_35 : decode cX9_statement 35 = .ok (.getfield 91, 3) := by decide +kernel
theorem dX9_statement_38 : decode cX9_statement 38 = .ok (.sipush 609, 3) := by decide +kernel
theorem dX9_statement_41 : decode cX9_statement 41 = .ok (.iaload, 1) := by decide +kernel
theorem dX9_statement_42 : decode cX9_statement 42 = .ok (.if_icmp .ge 142, 3) := by decide +kernel
theorem dX9_statement_45 : decode cX9_statement 45 = .ok (.iload_n 2, 1) := by decide +kernel
theorem dX9_statement_46 : decode cX9_statement 46 = .ok (.iconst 3, 1) := by decide +kernel
theorem dX9_statement_47 : decode cX9_statement 47 = .ok (.if_icmp .ne 22, 3) := by decide +kernel
theorem dX9_statement_50 : decode cX9_statement 50 = .ok (.aload_n 0, 1) := by decide +kernel
theorem dX9_statement_51 : decode cX9_statement 51 = .ok (.iload 5, 2) := by decide +kernel
theorem dX9_statement_53 : decode cX9_statement 53 = .ok (.iconst 2, 1) := by decide +kernel
theorem dX9_statement_54 : decode cX9_statement 54 = .ok (.invokevirtual 160, 3) := by decide +kernel
theorem dX9_statement_57 : decode cX9_statement 57 = .ok (.iload_n 1, 1) := by decide +kernel
theorem dX9_statement_58 : decode cX9_statement 58 = .ok (.if_icmp .gt 7, 3) := by decide +kernel
theorem dX9_statement_61 : decode cX9_statement 61 = .ok (.iconst 1, 1) := by decide +kernel
theorem dX9_statement_62 : decode cX9_statement 62 = .ok (.goto 23, 3) := by decide +kernel
theorem dX9_statement_65 : decode cX9_statement 65 = .ok (.iconst 0, 1) := by decide +kernel
theorem dX9_statement_66 : decode cX9_statement 66 = .ok (.goto 19, 3) := by decide +kernel
theorem dX9_statement_69 : decode cX9_statement 69 = .ok (.aload_n 0, 1) := by decide +kernel
theorem dX9_statement_70 : decode cX9_statement 70 = .ok (.iload 5, 2) := by decide +kernel
theorem dX9_statement_72 : decode cX9_statement 72 = .ok (.iconst 2, 1) := by decide +kernel
theorem dX9_statement_73 : decode cX9_statement 73 = .ok (.invokevirtual 160, 3) := by decide +kernel
theorem dX9_statement_76 : decode cX9_statement 76 = .ok (.iload_n 1, 1) := by decide +kernel
theorem dX9_statement_77 : decode cX9_statement 77 = .ok (.if_icmp .ne 7, 3) := by decide +kernel
theorem dX9_statement_80 : decode cX9_statement 80 = .ok (.iconst 1, 1) := by decide +kernel
theorem dX9_statement_81 : decode cX9_statement 81 = .ok (.goto 4, 3) := by decide +kernel
theorem dX9_statement_84 : decode cX9_statement 84 = .ok (.iconst 0, 1) := by decide +kernel
theorem dX9_statement_85 : decode cX9_statement 85 = .ok (.istore 6, 2) := by decide +kernel
theorem dX9_statement_87 : decode cX9_statement 87 = .ok (.aload_n 0, 1) := by decide +kernel
theorem dX9_statement_88 : decode cX9_statement 88 = .ok (.iload 5, 2) := by decide +kernel
theorem dX9_statement_90 : decode cX9_statement 90 = .ok (.bipush 6, 2) := by decide +kernel
theorem dX9_statement_92 : decode cX9_statement 92 = .ok (.invokevirtual 160, 3) := by decide +kernel
theorem dX9_statement_95 : decode cX9_statement 95 = .ok (.iconst 1, 1) := by decide +kernel
theorem dX9_statement_96 : decode cX9_statement 96 = .ok (.if_icmp .ne 39, 3) := by decide +kernel
theorem dX9_statement_99 : decode cX9_statement 99 = .ok (.iload_n 2, 1) := by decide +kernel
theorem dX9_statement_100 : decode cX9_statement 100 = .ok (.iconst 3, 1) := by decide +kernel
theorem dX9_statement_101 : decode cX9_statement 101 = .ok (.if_icmp .ne 18, 3) := by decide +kernel
theorem dX9_statement_104 : decode cX9_statement 104 = .ok (.aload_n 0, 1) := by decide +kernel
theorem dX9_statement_105 : decode cX9_statement 105 = .ok (.iload 5, 2) := by decide +kernel
theorem dX9_statement_107 : decode cX9_statement 107 = .ok (.bipush 7, 2) := by decide +kernel
theorem dX9_statement_109 : decode cX9_statement 109 = .ok (.invokevirtual 160, 3) := by decide +kernel
theorem dX9_statement_112 : decode cX9_statement 112 = .ok (.iload_n 1, 1) := by decide +kernel
theorem dX9_statement_113 : decode cX9_statement 113 = .ok (.if_icmp .gt 22, 3) := by decide +kernel
theorem dX9_statement_116 : decode cX9_statement 116 = .ok (.goto 15, 3) := by decide +kernel
theorem dX9_statement_119 : decode cX9_statement 119 = .ok (.aload_n 0, 1) := by decide +kernel
theorem dX9_statement_120 : decode cX9_statement 120 = .ok (.iload 5, 2) := by decide +kernel
theorem dX9_statement_122 : decode cX9_statement 122 = .ok (.bipush 7, 2) := by decide +kernel
theorem dX9_statement_124 : decode cX9_statement 124 = .ok (.invokevirtual 160, 3) := by decide +kernel
theorem dX9_statement_127 : decode cX9_statement 127 = .ok (.iload_n 1, 1) := by decide +kernel
theorem dX9_statement_128 : decode cX9_statement 128 = .ok (.if_icmp .ne 7, 3) := by decide +kernel
theorem dX9_statement_131 : decode cX9_statement 131 = .ok (.iconst 1, 1) := by decide +kernel
theorem dX9_statement_132 : decode cX9_statement 132 = .ok (.goto 4, 3) := by decide +kernel
theorem dX9_statement_135 : decode cX9_statement 135 = .ok (.iconst 0, 1) := by decide +kernel
theorem dX9_statement_136 : decode cX9_statement 136 = .ok (.istore 7, 2) := by decide +kernel
theorem dX9_statement_138 : decode cX9_statement 138 = .ok (.iload 6, 2) := by decide +kernel
theorem dX9_statement_140 : decode cX9_statement 140 = .ok (.ifCond .eq 17, 3) := by decide +kernel
theorem dX9_statement_143 : decode cX9_statement 143 = .ok (.iload_n 2, 1) := by decide +kernel
theorem dX9_statement_144 : decode cX9_statement 144 = .ok (.iconst 1, 1) := by decide +kernel
theorem dX9_statement_145 : decode cX9_statement 145 = .ok (.if_icmp .eq 12, 3) := by decide +kernel
theorem dX9_statement_148 : decode cX9_statement 148 = .ok (.lload_n 3, 1) := by decide +kernel
theorem dX9_statement_149 : decode cX9_statement 149 = .ok (.aload_n 0, 1) := by decide +kernel
theorem dX9_statement_150 : decode cX9_statement 150 = .ok (.iload 5, 2) := by decide +kernel
theorem dX9_statement_152 : decode cX9_statement 152 = .ok (.invokevirtual 227, 3) := by decide +kernel
theorem dX9_statement_155 : decode cX9_statement 155 = .ok (.ladd, 1) := by decide +kernel
theorem dX9_statement_156 : decode cX9_statement 156 = .ok (.lstore_n 3, 1) := by decide +kernel
theorem dX9_statement_157 : decode cX9_statement 157 = .ok (.iload 7, 2) := by decide +kernel
theorem dX9_statement_159 : decode cX9_statement 159 = .ok (.ifCond .eq 19, 3) := by decide +kernel
theorem dX9_statement_162 : decode cX9_statement 162 = .ok (.iload_n 2, 1) := by decide +kernel
theorem dX9_statement_163 : decode cX9_statement 163 = .ok (.ifCond .eq 15, 3) := by decide +kernel
theorem dX9_statement_166 : decode cX9_statement 166 = .ok (.lload_n 3, 1) := by decide +kernel
theorem dX9_statement_167 : decode cX9_statement 167 = .ok (.aload_n 0, 1) := by decide +kernel
theorem dX9_statement_168 : decode cX9_statement 168 = .ok (.iload 5, 2) := by decide +kernel
theorem dX9_statement_170 : decode cX9_statement 170 = .ok (.bipush 8, 2) := by decide +kernel
theorem dX9_statement_172 : decode cX9_statement 172 = .ok (.invokevirtual 160, 3) := by decide +kernel
theorem dX9_statement_175 : decode cX9_statement 175 = .ok (.i2l, 1) := by decide +kernel
theorem dX9_statement_176 : decode cX9_statement 176 = .ok (.ladd, 1) := by decide +kernel
theorem dX9_statement_177 : decode cX9_statement 177 = .ok (.lstore_n 3, 1) := by decide +kernel
theorem dX9_statement_178 : decode cX9_statement 178 = .ok (.iinc 5 1, 3) := by decide +kernel
theorem dX9_statement_181 : decode cX9_statement 181 = .ok (.goto (-149), 3) := by decide +kernel
theorem dX9_statement_184 : decode cX9_statement 184 = .ok (.lload_n 3, 1) := by decide +kernel
theorem dX9_statement_185 : decode cX9_statement 185 = .ok (.lreturn, 1) := by decide +kernel
theorem dX9_snap_0 : decode cX9_snap 0 = .ok (.aload_n 0, 1) := by decide +kernel
theorem dX9_snap_1 : decode cX9_snap 1 = .ok (.getfield 153, 3) := by decide +kernel
theorem dX9_snap_4 : decode cX9_snap 4 = .ok (.bipush 8, 2) := by decide +kernel
theorem dX9_snap_6 : decode cX9_snap 6 = .ok (.if_icmp .ne 44, 3) := by decide +kernel
theorem dX9_snap_9 : decode cX9_snap 9 = .ok (.iconst 0, 1) := by decide +kernel
theorem dX9_snap_10 : decode cX9_snap 10 = .ok (.istore_n 1, 1) := by decide +kernel
theorem dX9_snap_11 : decode cX9_snap 11 = .ok (.iload_n 1, 1) := by decide +kernel
theorem dX9_snap_12 : decode cX9_snap 12 = .ok (.sipush 6160, 3) := by decide +kernel
theorem dX9_snap_15 : decode cX9_snap 15 = .ok (.if_icmp .ge 25, 3) := by decide +kernel
theorem dX9_snap_18 : decode cX9_snap 18 = .ok (.aload_n 0, 1) := by decide +kernel
theorem dX9_snap_19 : decode cX9_snap 19 = .ok (.getfield 97, 3) := by decide +kernel
theorem dX9_snap_22 : decode cX9_snap 22 = .ok (.iload_n 1, 1) := by decide +kernel
theorem dX9_snap_23 : decode cX9_snap 23 = .ok (.aload_n 0, 1) := by decide +kernel
theorem dX9_snap_24 : decode cX9_snap 24 = .ok (.getfield 97, 3) := by decide +kernel
theorem dX9_snap_27 : decode cX9_snap 27 = .ok (.iload_n 1, 1) := by decide +kernel
theorem dX9_snap_28 : decode cX9_snap 28 = .ok (.sipush 880, 3) := by decide +kernel
theorem dX9_snap_31 : decode cX9_snap 31 = .ok (.iadd, 1) := by decide +kernel
theorem dX9_snap_32 : decode cX9_snap 32 = .ok (.iaload, 1) := by decide +kernel
theorem dX9_snap_33 : decode cX9_snap 33 = .ok (.iastore, 1) := by decide +kernel
theorem dX9_snap_34 : decode cX9_snap 34 = .ok (.iinc 1 1, 3) := by decide +kernel
theorem dX9_snap_37 : decode cX9_snap 37 = .ok (.goto (-26), 3) := by decide +kernel
theorem dX9_snap_40 : decode cX9_snap 40 = .ok (.aload_n 0, 1) := by decide +kernel
theorem dX9_snap_41 : decode cX9_snap 41 = .ok (.dup, 1) := by decide +kernel
theorem dX9_snap_42 : decode cX9_snap 42 = .ok (.getfield 153, 3) := by decide +kernel
theorem dX9_snap_45 : decode cX9_snap 45 = .ok (.iconst 1, 1) := by decide +kernel
theorem dX9_snap_46 : decode cX9_snap 46 = .ok (.isub, 1) := by decide +kernel
theorem dX9_snap_47 : decode cX9_snap 47 = .ok (.putfield 153, 3) := by decide +kernel
theorem dX9_snap_50 : decode cX9_snap 50 = .ok (.iconst 0, 1) := by decide +kernel
theorem dX9_snap_51 : decode cX9_snap 51 = .ok (.istore_n 1, 1) := by decide +kernel
theorem dX9_snap_52 : decode cX9_snap 52 = .ok (.iload_n 1, 1) := by decide +kernel
theorem dX9_snap_53 : decode cX9_snap 53 = .ok (.sipush 880, 3) := by decide +kernel
theorem dX9_snap_56 : decode cX9_snap 56 = .ok (.if_icmp .ge 30, 3) := by decide +kernel
theorem dX9_snap_59 : decode cX9_snap 59 = .ok (.aload_n 0, 1) := by decide +kernel
theorem dX9_snap_60 : decode cX9_snap 60 = .ok (.getfield 97, 3) := by decide +kernel
theorem dX9_snap_63 : decode cX9_snap 63 = .ok (.sipush 880, 3) := by decide +kernel
theorem dX9_snap_66 : decode cX9_snap 66 = .ok (.aload_n 0, 1) := by decide +kernel
theorem dX9_snap_67 : decode cX9_snap 67 = .ok (.getfield 153, 3) := by decide +kernel
theorem dX9_snap_70 : decode cX9_snap 70 = .ok (.imul, 1) := by decide +kernel
theorem dX9_snap_71 : decode cX9_snap 71 = .ok (.iload_n 1, 1) := by decide +kernel
theorem dX9_snap_72 : decode cX9_snap 72 = .ok (.iadd, 1) := by decide +kernel
theorem dX9_snap_73 : decode cX9_snap 73 = .ok (.aload_n 0, 1) := by decide +kernel
theorem dX9_snap_74 : decode cX9_snap 74 = .ok (.getfield 91, 3) := by decide +kernel
theorem dX9_snap_77 : decode cX9_snap 77 = .ok (.iload_n 1, 1) := by decide +kernel
theorem dX9_snap_78 : decode cX9_snap 78 = .ok (.iaload, 1) := by decide +kernel
theorem dX9_snap_79 : decode cX9_snap 79 = .ok (.iastore, 1) := by decide +kernel
theorem dX9_snap_80 : decode cX9_snap 80 = .ok (.iinc 1 1, 3) := by decide +kernel
theorem dX9_snap_83 : decode cX9_snap 83 = .ok (.goto (-31), 3) := by decide +kernel
theorem dX9_snap_86 : decode cX9_snap 86 = .ok (.aload_n 0, 1) := by decide +kernel
theorem dX9_snap_87 : decode cX9_snap 87 = .ok (.dup, 1) := by decide +kernel
theorem dX9_snap_88 : decode cX9_snap 88 = .ok (.getfield 153, 3) := by decide +kernel
theorem dX9_snap_91 : decode cX9_snap 91 = .ok (.iconst 1, 1) := by decide +kernel
theorem dX9_snap_92 : decode cX9_snap 92 = .ok (.iadd, 1) := by decide +kernel
theorem dX9_snap_93 : decode cX9_snap 93 = .ok (.putfield 153, 3) := by decide +kernel
theorem dX9_snap_96 : decode cX9_snap 96 = .ok (.return_, 1) := by decide +kernel
theorem dX9_lastBase_0 : decode cX9_lastBase 0 = .ok (.aload_n 0, 1) := by decide +kernel
theorem dX9_lastBase_1 : decode cX9_lastBase 1 = .ok (.getfield 91, 3) := by decide +kernel
theorem dX9_lastBase_4 : decode cX9_lastBase 4 = .ok (.sipush 434, 3) := by decide +kernel
theorem dX9_lastBase_7 : decode cX9_lastBase 7 = .ok (.bipush 10, 2) := by decide +kernel
theorem dX9_lastBase_9 : decode cX9_lastBase 9 = .ok (.iload_n 1, 1) := by decide +kernel
theorem dX9_lastBase_10 : decode cX9_lastBase 10 = .ok (.imul, 1) := by decide +kernel
theorem dX9_lastBase_11 : decode cX9_lastBase 11 = .ok (.iadd, 1) := by decide +kernel
theorem dX9_lastBase_12 : decode cX9_lastBase 12 = .ok (.iaload, 1) := by decide +kernel
theorem dX9_lastBase_13 : decode cX9_lastBase 13 = .ok (.ifCond .ne 7, 3) := by decide +kernel
theorem dX9_lastBase_16 : decode cX9_lastBase 16 = .ok (.iconst (-1), 1) := by decide +kernel
theorem dX9_lastBase_17 : decode cX9_lastBase 17 = .ok (.goto 24, 3) := by decide +kernel
theorem dX9_lastBase_20 : decode cX9_lastBase 20 = .ok (.aload_n 0, 1) := by decide +kernel
theorem dX9_lastBase_21 : decode cX9_lastBase 21 = .ok (.iload_n 1, 1) := by decide +kernel
theorem dX9_lastBase_22 : decode cX9_lastBase 22 = .ok (.aload_n 0, 1) := by decide +kernel
theorem dX9_lastBase_23 : decode cX9_lastBase 23 = .ok (.getfield 91, 3) := by decide +kernel
theorem dX9_lastBase_26 : decode cX9_lastBase 26 = .ok (.sipush 434, 3) := by decide +kernel
theorem dX9_lastBase_29 : decode cX9_lastBase 29 = .ok (.bipush 10, 2) := by decide +kernel
theorem dX9_lastBase_31 : decode cX9_lastBase 31 = .ok (.iload_n 1, 1) := by decide +kernel
theorem dX9_lastBase_32 : decode cX9_lastBase 32 = .ok (.imul, 1) := by decide +kernel
theorem dX9_lastBase_33 : decode cX9_lastBase 33 = .ok (.iadd, 1) := by decide +kernel
theorem dX9_lastBase_34 : decode cX9_lastBase 34 = .ok (.iaload, 1) := by decide +kernel
theorem dX9_lastBase_35 : decode cX9_lastBase 35 = .ok (.iconst 1, 1) := by decide +kernel
theorem dX9_lastBase_36 : decode cX9_lastBase 36 = .ok (.isub, 1) := by decide +kernel
theorem dX9_lastBase_37 : decode cX9_lastBase 37 = .ok (.iconst 0, 1) := by decide +kernel
theorem dX9_lastBase_38 : decode cX9_lastBase 38 = .ok (.invokevirtual 181, 3) := by decide +kernel
theorem dX9_lastBase_41 : decode cX9_lastBase 41 = .ok (.ireturn, 1) := by decide +kernel
theorem dX9_publish_0 : decode cX9_publish 0 = .ok (.aload_n 0, 1) := by decide +kernel
theorem dX9_publish_1 : decode cX9_publish 1 = .ok (.iconst 0, 1) := by decide +kernel
theorem dX9_publish_2 : decode cX9_publish 2 = .ok (.putfield 1, 3) := by decide +kernel
theorem dX9_publish_5 : decode cX9_publish 5 = .ok (.aload_n 0, 1) := by decide +kernel
theorem dX9_publish_6 : decode cX9_publish 6 = .ok (.iload_n 1, 1) := by decide +kernel
theorem dX9_publish_7 : decode cX9_publish 7 = .ok (.invokevirtual 169, 3) := by decide +kernel
theorem dX9_publish_10 : decode cX9_publish 10 = .ok (.ifCond .eq 26, 3) := by decide +kernel
theorem dX9_publish_13 : decode cX9_publish 13 = .ok (.iload_n 2, 1) := by decide +kernel
theorem dX9_publish_14 : decode cX9_publish 14 = .ok (.iconst 0, 1) := by decide +kernel
theorem dX9_publish_15 : decode cX9_publish 15 = .ok (.aload_n 0, 1) := by decide +kernel
theorem dX9_publish_16 : decode cX9_publish 16 = .ok (.invokevirtual 163, 3) := by decide +kernel
theorem dX9_publish_19 : decode cX9_publish 19 = .ok (.invokestatic 107, 3) := by decide +kernel
theorem dX9_publish_22 : decode cX9_publish 22 = .ok (.ifCond .eq 14, 3) := by decide +kernel
theorem dX9_publish_25 : decode cX9_publish 25 = .ok (.iload_n 3, 1) := by decide +kernel
theorem dX9_publish_26 : decode cX9_publish 26 = .ok (.iconst 1, 1) := by decide +kernel
theorem dX9_publish_27 : decode cX9_publish 27 = .ok (.sipush 999, 3) := by decide +kernel
theorem dX9_publish_30 : decode cX9_publish 30 = .ok (.invokestatic 107, 3) := by decide +kernel
theorem dX9_publish_33 : decode cX9_publish 33 = .ok (.ifCond .ne 5, 3) := by decide +kernel
theorem dX9_publish_36 : decode cX9_publish 36 = .ok (.iconst (-1), 1) := by decide +kernel
theorem dX9_publish_37 : decode cX9_publish 37 = .ok (.ireturn, 1) := by decide +kernel
theorem dX9_publish_38 : decode cX9_publish 38 = .ok (.aload_n 0, 1) := by decide +kernel
theorem dX9_publish_39 : decode cX9_publish 39 = .ok (.iload_n 1, 1) := by decide +kernel
theorem dX9_publish_40 : decode cX9_publish 40 = .ok (.iload_n 2, 1) := by decide +kernel
theorem dX9_publish_41 : decode cX9_publish 41 = .ok (.invokevirtual 156, 3) := by decide +kernel
theorem dX9_publish_44 : decode cX9_publish 44 = .ok (.iconst 2, 1) := by decide +kernel
theorem dX9_publish_45 : decode cX9_publish 45 = .ok (.if_icmp .ne 6, 3) := by decide +kernel
theorem dX9_publish_48 : decode cX9_publish 48 = .ok (.bipush (-2), 2) := by decide +kernel
theorem dX9_publish_50 : decode cX9_publish 50 = .ok (.ireturn, 1) := by decide +kernel
theorem dX9_publish_51 : decode cX9_publish 51 = .ok (.iload_n 2, 1) := by decide +kernel
theorem dX9_publish_52 : decode cX9_publish 52 = .ok (.aload_n 0, 1) := by decide +kernel
theorem dX9_publish_53 : decode cX9_publish 53 = .ok (.iload_n 1, 1) := by decide +kernel
theorem dX9_publish_54 : decode cX9_publish 54 = .ok (.invokevirtual 230, 3) := by decide +kernel
theorem dX9_publish_57 : decode cX9_publish 57 = .ok (.if_icmp .gt 6, 3) := by decide +kernel
theorem dX9_publish_60 : decode cX9_publish 60 = .ok (.bipush (-3), 2) := by decide +kernel
theorem dX9_publish_62 : decode cX9_publish 62 = .ok (.ireturn, 1) := by decide +kernel
theorem dX9_publish_63 : decode cX9_publish 63 = .ok (.aload_n 0, 1) := by decide +kernel
theorem dX9_publish_64 : decode cX9_publish 64 = .ok (.invokevirtual 233, 3) := by decide +kernel
theorem dX9_publish_67 : decode cX9_publish 67 = .ok (.aload_n 0, 1) := by decide +kernel
theorem dX9_publish_68 : decode cX9_publish 68 = .ok (.iload_n 1, 1) := by decide +kernel
theorem dX9_publish_69 : decode cX9_publish 69 = .ok (.iload_n 2, 1) := by decide +kernel
theorem dX9_publish_70 : decode cX9_publish 70 = .ok (.invokevirtual 156, 3) := by decide +kernel
theorem dX9_publish_73 : decode cX9_publish 73 = .ok (.ifCond .ne 7, 3) := by decide +kernel
theorem dX9_publish_76 : decode cX9_publish 76 = .ok (.iconst 0, 1) := by decide +kernel
theorem dX9_publish_77 : decode cX9_publish 77 = .ok (.goto 9, 3) := by decide +kernel
theorem dX9_publish_80 : decode cX9_publish 80 = .ok (.aload_n 0, 1) := by decide +kernel
theorem dX9_publish_81 : decode cX9_publish 81 = .ok (.iload_n 1, 1) := by decide +kernel
theorem dX9_publish_82 : decode cX9_publish 82 = .ok (.iload_n 2, 1) := by decide +kernel
theorem dX9_publish_83 : decode cX9_publish 83 = .ok (.invokevirtual 178, 3) := by decide +kernel
theorem dX9_publish_86 : decode cX9_publish 86 = .ok (.istore 5, 2) := by decide +kernel
theorem dX9_publish_88 : decode cX9_publish 88 = .ok (.aload_n 0, 1) := by decide +kernel
theorem dX9_publish_89 : decode cX9_publish 89 = .ok (.getfield 91, 3) := by decide +kernel
theorem dX9_publish_92 : decode cX9_publish 92 = .ok (.iconst 2, 1) := by decide +kernel
theorem dX9_publish_93 : decode cX9_publish 93 = .ok (.bipush 36, 2) := by decide +kernel
theorem dX9_publish_95 : decode cX9_publish 95 = .ok (.iload_n 1, 1) := by decide +kernel
theorem dX9_publish_96 : decode cX9_publish 96 = .ok (.imul, 1) := by decide +kernel
theorem dX9_publish_97 : decode cX9_publish 97 = .ok (.iadd, 1) := by decide +kernel
theorem dX9_publish_98 : decode cX9_publish 98 = .ok (.iload_n 2, 1) := by decide +kernel
theorem dX9_publish_99 : decode cX9_publish 99 = .ok (.iadd, 1) := by decide +kernel
theorem dX9_publish_100 : decode cX9_publish 100 = .ok (.iload_n 3, 1) := by decide +kernel
theorem dX9_publish_101 : decode cX9_publish 101 = .ok (.iastore, 1) := by decide +kernel
theorem dX9_publish_102 : decode cX9_publish 102 = .ok (.aload_n 0, 1) := by decide +kernel
theorem dX9_publish_103 : decode cX9_publish 103 = .ok (.getfield 91, 3) := by decide +kernel
theorem dX9_publish_106 : decode cX9_publish 106 = .ok (.sipush 218, 3) := by decide +kernel
theorem dX9_publish_109 : decode cX9_publish 109 = .ok (.bipush 36, 2) := by decide +kernel
theorem dX9_publish_111 : decode cX9_publish 111 = .ok (.iload_n 1, 1) := by decide +kernel
theorem dX9_publish_112 : decode cX9_publish 112 = .ok (.imul, 1) := by decide +kernel
theorem dX9_publish_113 : decode cX9_publish 113 = .ok (.iadd, 1) := by decide +kernel
theorem dX9_publish_114 : decode cX9_publish 114 = .ok (.iload_n 2, 1) := by decide +kernel
theorem dX9_publish_115 : decode cX9_publish 115 = .ok (.iadd, 1) := by decide +kernel
theorem dX9_publish_116 : decode cX9_publish 116 = .ok (.iload 4, 2) := by decide +kernel
theorem dX9_publish_118 : decode cX9_publish 118 = .ok (.ifCond .eq 7, 3) := by decide +kernel
theorem dX9_publish_121 : decode cX9_publish 121 = .ok (.iconst 2, 1) := by decide +kernel
theorem dX9_publish_122 : decode cX9_publish 122 = .ok (.goto 4, 3) := by decide +kernel
theorem dX9_publish_125 : decode cX9_publish 125 = .ok (.iconst 1, 1) := by decide +kernel
theorem dX9_publish_126 : decode cX9_publish 126 = .ok (.iastore, 1) := by decide +kernel
theorem dX9_publish_127 : decode cX9_publish 127 = .ok (.iload 5, 2) := by decide +kernel
theorem dX9_publish_129 : decode cX9_publish 129 = .ok (.ireturn, 1) := by decide +kernel
theorem dX9_rebase_0 : decode cX9_rebase 0 = .ok (.aload_n 0, 1) := by decide +kernel
theorem dX9_rebase_1 : decode cX9_rebase 1 = .ok (.iconst 0, 1) := by decide +kernel
theorem dX9_rebase_2 : decode cX9_rebase 2 = .ok (.putfield 1, 3) := by decide +kernel
theorem dX9_rebase_5 : decode cX9_rebase 5 = .ok (.aload_n 0, 1) := by decide +kernel
theorem dX9_rebase_6 : decode cX9_rebase 6 = .ok (.iload_n 1, 1) := by decide +kernel
theorem dX9_rebase_7 : decode cX9_rebase 7 = .ok (.invokevirtual 169, 3) := by decide +kernel
theorem dX9_rebase_10 : decode cX9_rebase 10 = .ok (.ifCond .eq 26, 3) := by decide +kernel
theorem dX9_rebase_13 : decode cX9_rebase 13 = .ok (.iload_n 2, 1) := by decide +kernel
theorem dX9_rebase_14 : decode cX9_rebase 14 = .ok (.iconst 0, 1) := by decide +kernel
theorem dX9_rebase_15 : decode cX9_rebase 15 = .ok (.aload_n 0, 1) := by decide +kernel
theorem dX9_rebase_16 : decode cX9_rebase 16 = .ok (.invokevirtual 163, 3) := by decide +kernel
theorem dX9_rebase_19 : decode cX9_rebase 19 = .ok (.invokestatic 107, 3) := by decide +kernel
theorem dX9_rebase_22 : decode cX9_rebase 22 = .ok (.ifCond .eq 14, 3) := by decide +kernel
theorem dX9_rebase_25 : decode cX9_rebase 25 = .ok (.iload_n 3, 1) := by decide +kernel
theorem dX9_rebase_26 : decode cX9_rebase 26 = .ok (.iconst 1, 1) := by decide +kernel
theorem dX9_rebase_27 : decode cX9_rebase 27 = .ok (.sipush 999, 3) := by decide +kernel
theorem dX9_rebase_30 : decode cX9_rebase 30 = .ok (.invokestatic 107, 3) := by decide +kernel
theorem dX9_rebase_33 : decode cX9_rebase 33 = .ok (.ifCond .ne 5, 3) := by decide +kernel
theorem dX9_rebase_36 : decode cX9_rebase 36 = .ok (.iconst (-1), 1) := by decide +kernel
theorem dX9_rebase_37 : decode cX9_rebase 37 = .ok (.ireturn, 1) := by decide +kernel
theorem dX9_rebase_38 : decode cX9_rebase 38 = .ok (.aload_n 0, 1) := by decide +kernel
theorem dX9_rebase_39 : decode cX9_rebase 39 = .ok (.iload_n 1, 1) := by decide +kernel
theorem dX9_rebase_40 : decode cX9_rebase 40 = .ok (.iload_n 2, 1) := by decide +kernel
theorem dX9_rebase_41 : decode cX9_rebase 41 = .ok (.invokevirtual 156, 3) := by decide +kernel
theorem dX9_rebase_44 : decode cX9_rebase 44 = .ok (.iconst 2, 1) := by decide +kernel
theorem dX9_rebase_45 : decode cX9_rebase 45 = .ok (.if_icmp .eq 6, 3) := by decide +kernel
theorem dX9_rebase_48 : decode cX9_rebase 48 = .ok (.bipush (-2), 2) := by decide +kernel
theorem dX9_rebase_50 : decode cX9_rebase 50 = .ok (.ireturn, 1) := by decide +kernel
theorem dX9_rebase_51 : decode cX9_rebase 51 = .ok (.iload_n 2, 1) := by decide +kernel
theorem dX9_rebase_52 : decode cX9_rebase 52 = .ok (.aload_n 0, 1) := by decide +kernel
theorem dX9_rebase_53 : decode cX9_rebase 53 = .ok (.iload_n 1, 1) := by decide +kernel
theorem dX9_rebase_54 : decode cX9_rebase 54 = .ok (.invokevirtual 230, 3) := by decide +kernel
theorem dX9_rebase_57 : decode cX9_rebase 57 = .ok (.if_icmp .le 14, 3) := by decide +kernel
theorem dX9_rebase_60 : decode cX9_rebase 60 = .ok (.aload_n 0, 1) := by decide +kernel
theorem dX9_rebase_61 : decode cX9_rebase 61 = .ok (.iload_n 1, 1) := by decide +kernel
theorem dX9_rebase_62 : decode cX9_rebase 62 = .ok (.bipush 35, 2) := by decide +kernel
theorem dX9_rebase_64 : decode cX9_rebase 64 = .ok (.invokevirtual 175, 3) := by decide +kernel
theorem dX9_rebase_67 : decode cX9_rebase 67 = .ok (.iload_n 2, 1) := by decide +kernel
theorem dX9_rebase_68 : decode cX9_rebase 68 = .ok (.if_icmp .le 6, 3) := by decide +kernel
theorem dX9_rebase_71 : decode cX9_rebase 71 = .ok (.bipush (-3), 2) := by decide +kernel
theorem dX9_rebase_73 : decode cX9_rebase 73 = .ok (.ireturn, 1) := by decide +kernel
theorem dX9_rebase_74 : decode cX9_rebase 74 = .ok (.sipush 434, 3) := by decide +kernel
theorem dX9_rebase_77 : decode cX9_rebase 77 = .ok (.bipush 10, 2) := by decide +kernel
theorem dX9_rebase_79 : decode cX9_rebase 79 = .ok (.iload_n 1, 1) := by decide +kernel
theorem dX9_rebase_80 : decode cX9_rebase 80 = .ok (.imul, 1) := by decide +kernel
theorem dX9_rebase_81 : decode cX9_rebase 81 = .ok (.iadd, 1) := by decide +kernel
theorem dX9_rebase_82 : decode cX9_rebase 82 = .ok (.istore 4, 2) := by decide +kernel
theorem dX9_rebase_84 : decode cX9_rebase 84 = .ok (.aload_n 0, 1) := by decide +kernel
theorem dX9_rebase_85 : decode cX9_rebase 85 = .ok (.getfield 91, 3) := by decide +kernel
theorem dX9_rebase_88 : decode cX9_rebase 88 = .ok (.iload 4, 2) := by decide +kernel
theorem dX9_rebase_90 : decode cX9_rebase 90 = .ok (.iaload, 1) := by decide +kernel
theorem dX9_rebase_91 : decode cX9_rebase 91 = .ok (.iconst 3, 1) := by decide +kernel
theorem dX9_rebase_92 : decode cX9_rebase 92 = .ok (.if_icmp .ne 6, 3) := by decide +kernel
theorem dX9_rebase_95 : decode cX9_rebase 95 = .ok (.bipush (-4), 2) := by decide +kernel
theorem dX9_rebase_97 : decode cX9_rebase 97 = .ok (.ireturn, 1) := by decide +kernel
theorem dX9_rebase_98 : decode cX9_rebase 98 = .ok (.aload_n 0, 1) := by decide +kernel
theorem dX9_rebase_99 : decode cX9_rebase 99 = .ok (.invokevirtual 233, 3) := by decide +kernel
theorem dX9_rebase_102 : decode cX9_rebase 102 = .ok (.aload_n 0, 1) := by decide +kernel
theorem dX9_rebase_103 : decode cX9_rebase 103 = .ok (.getfield 91, 3) := by decide +kernel
theorem dX9_rebase_106 : decode cX9_rebase 106 = .ok (.iload 4, 2) := by decide +kernel
theorem dX9_rebase_108 : decode cX9_rebase 108 = .ok (.iconst 1, 1) := by decide +kernel
theorem dX9_rebase_109 : decode cX9_rebase 109 = .ok (.iadd, 1) := by decide +kernel
theorem dX9_rebase_110 : decode cX9_rebase 110 = .ok (.iconst 3, 1) := by decide +kernel
theorem dX9_rebase_111 : decode cX9_rebase 111 = .ok (.aload_n 0, 1) := by decide +kernel
theorem dX9_rebase_112 : decode cX9_rebase 112 = .ok (.getfield 91, 3) := by decide +kernel
theorem dX9_rebase_115 : decode cX9_rebase 115 = .ok (.iload 4, 2) := by decide +kernel
theorem dX9_rebase_117 : decode cX9_rebase 117 = .ok (.iaload, 1) := by decide +kernel
theorem dX9_rebase_118 : decode cX9_rebase 118 = .ok (.imul, 1) := by decide +kernel
theorem dX9_rebase_119 : decode cX9_rebase 119 = .ok (.iadd, 1) := by decide +kernel
theorem dX9_rebase_120 : decode cX9_rebase 120 = .ok (.iload_n 2, 1) := by decide +kernel
theorem dX9_rebase_121 : decode cX9_rebase 121 = .ok (.iastore, 1) := by decide +kernel
theorem dX9_rebase_122 : decode cX9_rebase 122 = .ok (.aload_n 0, 1) := by decide +kernel
theorem dX9_rebase_123 : decode cX9_rebase 123 = .ok (.getfield 91, 3) := by decide +kernel
theorem dX9_rebase_126 : decode cX9_rebase 126 = .ok (.iload 4, 2) := by decide +kernel
theorem dX9_rebase_128 : decode cX9_rebase 128 = .ok (.iconst 2, 1) := by decide +kernel
theorem dX9_rebase_129 : decode cX9_rebase 129 = .ok (.iadd, 1) := by decide +kernel
theorem dX9_rebase_130 : decode cX9_rebase 130 = .ok (.iconst 3, 1) := by decide +kernel
theorem dX9_rebase_131 : decode cX9_rebase 131 = .ok (.aload_n 0, 1) := by decide +kernel
theorem dX9_rebase_132 : decode cX9_rebase 132 = .ok (.getfield 91, 3) := by decide +kernel
theorem dX9_rebase_135 : decode cX9_rebase 135 = .ok (.iload 4, 2) := by decide +kernel
theorem dX9_rebase_137 : decode cX9_rebase 137 = .ok (.iaload, 1) := by decide +kernel
theorem dX9_rebase_138 : decode cX9_rebase 138 = .ok (.imul, 1) := by decide +kernel
theorem dX9_rebase_139 : decode cX9_rebase 139 = .ok (.iadd, 1) := by decide +kernel
theorem dX9_rebase_140 : decode cX9_rebase 140 = .ok (.aload_n 0, 1) := by decide +kernel
theorem dX9_rebase_141 : decode cX9_rebase 141 = .ok (.iload_n 1, 1) := by decide +kernel
theorem dX9_rebase_142 : decode cX9_rebase 142 = .ok (.iload_n 2, 1) := by decide +kernel
theorem dX9_rebase_143 : decode cX9_rebase 143 = .ok (.invokevirtual 178, 3) := by decide +kernel
theorem dX9_rebase_146 : decode cX9_rebase 146 = .ok (.iastore, 1) := by decide +kernel
theorem dX9_rebase_147 : decode cX9_rebase 147 = .ok (.aload_n 0, 1) := by decide +kernel
theorem dX9_rebase_148 : decode cX9_rebase 148 = .ok (.getfield 91, 3) := by decide +kernel
theorem dX9_rebase_151 : decode cX9_rebase 151 = .ok (.iload 4, 2) := by decide +kernel
theorem dX9_rebase_153 : decode cX9_rebase 153 = .ok (.iconst 3, 1) := by decide +kernel
theorem dX9_rebase_154 : decode cX9_rebase 154 = .ok (.iadd, 1) := by decide +kernel
theorem dX9_rebase_155 : decode cX9_rebase 155 = .ok (.iconst 3, 1) := by decide +kernel
theorem dX9_rebase_156 : decode cX9_rebase 156 = .ok (.aload_n 0, 1) := by decide +kernel
theorem dX9_rebase_157 : decode cX9_rebase 157 = .ok (.getfield 91, 3) := by decide +kernel
theorem dX9_rebase_160 : decode cX9_rebase 160 = .ok (.iload 4, 2) := by decide +kernel
theorem dX9_rebase_162 : decode cX9_rebase 162 = .ok (.iaload, 1) := by decide +kernel
theorem dX9_rebase_163 : decode cX9_rebase 163 = .ok (.imul, 1) := by decide +kernel
theorem dX9_rebase_164 : decode cX9_rebase 164 = .ok (.iadd, 1) := by decide +kernel
theorem dX9_rebase_165 : decode cX9_rebase 165 = .ok (.iload_n 3, 1) := by decide +kernel
theorem dX9_rebase_166 : decode cX9_rebase 166 = .ok (.iastore, 1) := by decide +kernel
theorem dX9_rebase_167 : decode cX9_rebase 167 = .ok (.aload_n 0, 1) := by decide +kernel
theorem dX9_rebase_168 : decode cX9_rebase 168 = .ok (.getfield 91, 3) := by decide +kernel
theorem dX9_rebase_171 : decode cX9_rebase 171 = .ok (.iload 4, 2) := by decide +kernel
theorem dX9_rebase_173 : decode cX9_rebase 173 = .ok (.dup2, 1) := by decide +kernel
theorem dX9_rebase_174 : decode cX9_rebase 174 = .ok (.iaload, 1) := by decide +kernel
theorem dX9_rebase_175 : decode cX9_rebase 175 = .ok (.iconst 1, 1) := by decide +kernel
theorem dX9_rebase_176 : decode cX9_rebase 176 = .ok (.iadd, 1) := by decide +kernel
theorem dX9_rebase_177 : decode cX9_rebase 177 = .ok (.iastore, 1) := by decide +kernel
theorem dX9_rebase_178 : decode cX9_rebase 178 = .ok (.aload_n 0, 1) := by decide +kernel
theorem dX9_rebase_179 : decode cX9_rebase 179 = .ok (.getfield 91, 3) := by decide +kernel
theorem dX9_rebase_182 : decode cX9_rebase 182 = .ok (.iload 4, 2) := by decide +kernel
theorem dX9_rebase_184 : decode cX9_rebase 184 = .ok (.iaload, 1) := by decide +kernel
theorem dX9_rebase_185 : decode cX9_rebase 185 = .ok (.ireturn, 1) := by decide +kernel
theorem dX9_deliver_0 : decode cX9_deliver 0 = .ok (.aload_n 0, 1) := by decide +kernel
theorem dX9_deliver_1 : decode cX9_deliver 1 = .ok (.iconst 0, 1) := by decide +kernel
theorem dX9_deliver_2 : decode cX9_deliver 2 = .ok (.putfield 1, 3) := by decide +kernel
theorem dX9_deliver_5 : decode cX9_deliver 5 = .ok (.aload_n 0, 1) := by decide +kernel
theorem dX9_deliver_6 : decode cX9_deliver 6 = .ok (.iload_n 1, 1) := by decide +kernel
theorem dX9_deliver_7 : decode cX9_deliver 7 = .ok (.invokevirtual 196, 3) := by decide +kernel
theorem dX9_deliver_10 : decode cX9_deliver 10 = .ok (.ifCond .eq 31, 3) := by decide +kernel
theorem dX9_deliver_13 : decode cX9_deliver 13 = .ok (.iload_n 2, 1) := by decide +kernel
theorem dX9_deliver_14 : decode cX9_deliver 14 = .ok (.aload_n 0, 1) := by decide +kernel
theorem dX9_deliver_15 : decode cX9_deliver 15 = .ok (.iload_n 1, 1) := by decide +kernel
theorem dX9_deliver_16 : decode cX9_deliver 16 = .ok (.iconst 2, 1) := by decide +kernel
theorem dX9_deliver_17 : decode cX9_deliver 17 = .ok (.invokevirtual 199, 3) := by decide +kernel
theorem dX9_deliver_20 : decode cX9_deliver 20 = .ok (.aload_n 0, 1) := by decide +kernel
theorem dX9_deliver_21 : decode cX9_deliver 21 = .ok (.invokevirtual 163, 3) := by decide +kernel
theorem dX9_deliver_24 : decode cX9_deliver 24 = .ok (.invokestatic 107, 3) := by decide +kernel
theorem dX9_deliver_27 : decode cX9_deliver 27 = .ok (.ifCond .eq 14, 3) := by decide +kernel
theorem dX9_deliver_30 : decode cX9_deliver 30 = .ok (.iload_n 3, 1) := by decide +kernel
theorem dX9_deliver_31 : decode cX9_deliver 31 = .ok (.iconst 1, 1) := by decide +kernel
theorem dX9_deliver_32 : decode cX9_deliver 32 = .ok (.sipush 999, 3) := by decide +kernel
theorem dX9_deliver_35 : decode cX9_deliver 35 = .ok (.invokestatic 107, 3) := by decide +kernel
theorem dX9_deliver_38 : decode cX9_deliver 38 = .ok (.ifCond .ne 5, 3) := by decide +kernel
theorem dX9_deliver_41 : decode cX9_deliver 41 = .ok (.iconst (-1), 1) := by decide +kernel
theorem dX9_deliver_42 : decode cX9_deliver 42 = .ok (.ireturn, 1) := by decide +kernel
theorem dX9_deliver_43 : decode cX9_deliver 43 = .ok (.aload_n 0, 1) := by decide +kernel
theorem dX9_deliver_44 : decode cX9_deliver 44 = .ok (.getfield 91, 3) := by decide +kernel
theorem dX9_deliver_47 : decode cX9_deliver 47 = .ok (.sipush 609, 3) := by decide +kernel
theorem dX9_deliver_50 : decode cX9_deliver 50 = .ok (.iaload, 1) := by decide +kernel
theorem dX9_deliver_51 : decode cX9_deliver 51 = .ok (.bipush 30, 2) := by decide +kernel
theorem dX9_deliver_53 : decode cX9_deliver 53 = .ok (.if_icmp .ne 6, 3) := by decide +kernel
theorem dX9_deliver_56 : decode cX9_deliver 56 = .ok (.bipush (-2), 2) := by decide +kernel
theorem dX9_deliver_58 : decode cX9_deliver 58 = .ok (.ireturn, 1) := by decide +kernel
theorem dX9_deliver_59 : decode cX9_deliver 59 = .ok (.aload_n 0, 1) := by decide +kernel
theorem dX9_deliver_60 : decode cX9_deliver 60 = .ok (.invokevirtual 233, 3) := by decide +kernel
theorem dX9_deliver_63 : decode cX9_deliver 63 = .ok (.aload_n 0, 1) := by decide +kernel
theorem dX9_deliver_64 : decode cX9_deliver 64 = .ok (.getfield 91, 3) := by decide +kernel
theorem dX9_deliver_67 : decode cX9_deliver 67 = .ok (.sipush 609, 3) := by decide +kernel
theorem dX9_deliver_70 : decode cX9_deliver 70 = .ok (.iaload, 1) := by decide +kernel
theorem dX9_deliver_71 : decode cX9_deliver 71 = .ok (.istore 4, 2) := by decide +kernel
theorem dX9_deliver_73 : decode cX9_deliver 73 = .ok (.sipush 610, 3) := by decide +kernel
theorem dX9_deliver_76 : decode cX9_deliver 76 = .ok (.bipush 9, 2) := by decide +kernel
theorem dX9_deliver_78 : decode cX9_deliver 78 = .ok (.iload 4, 2) := by decide +kernel
theorem dX9_deliver_80 : decode cX9_deliver 80 = .ok (.imul, 1) := by decide +kernel
theorem dX9_deliver_81 : decode cX9_deliver 81 = .ok (.iadd, 1) := by decide +kernel
theorem dX9_deliver_82 : decode cX9_deliver 82 = .ok (.istore 5, 2) := by decide +kernel
theorem dX9_deliver_84 : decode cX9_deliver 84 = .ok (.aload_n 0, 1) := by decide +kernel
theorem dX9_deliver_85 : decode cX9_deliver 85 = .ok (.iload_n 1, 1) := by decide +kernel
theorem dX9_deliver_86 : decode cX9_deliver 86 = .ok (.iload_n 2, 1) := by decide +kernel
theorem dX9_deliver_87 : decode cX9_deliver 87 = .ok (.invokevirtual 215, 3) := by decide +kernel
theorem dX9_deliver_90 : decode cX9_deliver 90 = .ok (.aload_n 0, 1) := by decide +kernel
theorem dX9_deliver_91 : decode cX9_deliver 91 = .ok (.iload_n 1, 1) := by decide +kernel
theorem dX9_deliver_92 : decode cX9_deliver 92 = .ok (.aload_n 0, 1) := by decide +kernel
theorem dX9_deliver_93 : decode cX9_deliver 93 = .ok (.invokevirtual 163, 3) := by decide +kernel
theorem dX9_deliver_96 : decode cX9_deliver 96 = .ok (.invokevirtual 215, 3) := by decide +kernel
theorem dX9_deliver_99 : decode cX9_deliver 99 = .ok (.if_icmp .gt 7, 3) := by decide +kernel
theorem dX9_deliver_102 : decode cX9_deliver 102 = .ok (.iload_n 2, 1) := by decide +kernel
theorem dX9_deliver_103 : decode cX9_deliver 103 = .ok (.goto 7, 3) := by decide +kernel
theorem dX9_deliver_106 : decode cX9_deliver 106 = .ok (.aload_n 0, 1) := by decide +kernel
theorem dX9_deliver_107 : decode cX9_deliver 107 = .ok (.invokevirtual 163, 3) := by decide +kernel
theorem dX9_deliver_110 : decode cX9_deliver 110 = .ok (.istore 6, 2) := by decide +kernel
theorem dX9_deliver_112 : decode cX9_deliver 112 = .ok (.aload_n 0, 1) := by decide +kernel
theorem dX9_deliver_113 : decode cX9_deliver 113 = .ok (.getfield 91, 3) := by decide +kernel
theorem dX9_deliver_116 : decode cX9_deliver 116 = .ok (.iload 5, 2) := by decide +kernel
theorem dX9_deliver_118 : decode cX9_deliver 118 = .ok (.iconst 0, 1) := by decide +kernel
theorem dX9_deliver_119 : decode cX9_deliver 119 = .ok (.iadd, 1) := by decide +kernel
theorem dX9_deliver_120 : decode cX9_deliver 120 = .ok (.iload_n 1, 1) := by decide +kernel
theorem dX9_deliver_121 : decode cX9_deliver 121 = .ok (.iastore, 1) := by decide +kernel
theorem dX9_deliver_122 : decode cX9_deliver 122 = .ok (.aload_n 0, 1) := by decide +kernel
theorem dX9_deliver_123 : decode cX9_deliver 123 = .ok (.getfield 91, 3) := by decide +kernel
theorem dX9_deliver_126 : decode cX9_deliver 126 = .ok (.iload 5, 2) := by decide +kernel
theorem dX9_deliver_128 : decode cX9_deliver 128 = .ok (.iconst 1, 1) := by decide +kernel
theorem dX9_deliver_129 : decode cX9_deliver 129 = .ok (.iadd, 1) := by decide +kernel
theorem dX9_deliver_130 : decode cX9_deliver 130 = .ok (.iload_n 2, 1) := by decide +kernel
theorem dX9_deliver_131 : decode cX9_deliver 131 = .ok (.iastore, 1) := by decide +kernel
theorem dX9_deliver_132 : decode cX9_deliver 132 = .ok (.aload_n 0, 1) := by decide +kernel
theorem dX9_deliver_133 : decode cX9_deliver 133 = .ok (.getfield 91, 3) := by decide +kernel
theorem dX9_deliver_136 : decode cX9_deliver 136 = .ok (.iload 5, 2) := by decide +kernel
theorem dX9_deliver_138 : decode cX9_deliver 138 = .ok (.iconst 2, 1) := by decide +kernel
theorem dX9_deliver_139 : decode cX9_deliver 139 = .ok (.iadd, 1) := by decide +kernel
theorem dX9_deliver_140 : decode cX9_deliver 140 = .ok (.aload_n 0, 1) := by decide +kernel
theorem dX9_deliver_141 : decode cX9_deliver 141 = .ok (.invokevirtual 163, 3) := by decide +kernel
theorem dX9_deliver_144 : decode cX9_deliver 144 = .ok (.iastore, 1) := by decide +kernel
theorem dX9_deliver_145 : decode cX9_deliver 145 = .ok (.aload_n 0, 1) := by decide +kernel
theorem dX9_deliver_146 : decode cX9_deliver 146 = .ok (.getfield 91, 3) := by decide +kernel
theorem dX9_deliver_149 : decode cX9_deliver 149 = .ok (.iload 5, 2) := by decide +kernel
theorem dX9_deliver_151 : decode cX9_deliver 151 = .ok (.iconst 3, 1) := by decide +kernel
theorem dX9_deliver_152 : decode cX9_deliver 152 = .ok (.iadd, 1) := by decide +kernel
theorem dX9_deliver_153 : decode cX9_deliver 153 = .ok (.iload_n 3, 1) := by decide +kernel
theorem dX9_deliver_154 : decode cX9_deliver 154 = .ok (.iastore, 1) := by decide +kernel
theorem dX9_deliver_155 : decode cX9_deliver 155 = .ok (.aload_n 0, 1) := by decide +kernel
theorem dX9_deliver_156 : decode cX9_deliver 156 = .ok (.getfield 91, 3) := by decide +kernel
theorem dX9_deliver_159 : decode cX9_deliver 159 = .ok (.iload 5, 2) := by decide +kernel
theorem dX9_deliver_161 : decode cX9_deliver 161 = .ok (.iconst 4, 1) := by decide +kernel
theorem dX9_deliver_162 : decode cX9_deliver 162 = .ok (.iadd, 1) := by decide +kernel
theorem dX9_deliver_163 : decode cX9_deliver 163 = .ok (.iload 6, 2) := by decide +kernel
theorem dX9_deliver_165 : decode cX9_deliver 165 = .ok (.iastore, 1) := by decide +kernel
theorem dX9_deliver_166 : decode cX9_deliver 166 = .ok (.aload_n 0, 1) := by decide +kernel
theorem dX9_deliver_167 : decode cX9_deliver 167 = .ok (.getfield 91, 3) := by decide +kernel
theorem dX9_deliver_170 : decode cX9_deliver 170 = .ok (.iload 5, 2) := by decide +kernel
theorem dX9_deliver_172 : decode cX9_deliver 172 = .ok (.iconst 5, 1) := by decide +kernel
theorem dX9_deliver_173 : decode cX9_deliver 173 = .ok (.iadd, 1) := by decide +kernel
theorem dX9_deliver_174 : decode cX9_deliver 174 = .ok (.aload_n 0, 1) := by decide +kernel
theorem dX9_deliver_175 : decode cX9_deliver 175 = .ok (.iload_n 1, 1) := by decide +kernel
theorem dX9_deliver_176 : decode cX9_deliver 176 = .ok (.iload 6, 2) := by decide +kernel
theorem dX9_deliver_178 : decode cX9_deliver 178 = .ok (.invokevirtual 215, 3) := by decide +kernel
theorem dX9_deliver_181 : decode cX9_deliver 181 = .ok (.iastore, 1) := by decide +kernel
theorem dX9_deliver_182 : decode cX9_deliver 182 = .ok (.aload_n 0, 1) := by decide +kernel
theorem dX9_deliver_183 : decode cX9_deliver 183 = .ok (.getfield 91, 3) := by decide +kernel
theorem dX9_deliver_186 : decode cX9_deliver 186 = .ok (.iload 5, 2) := by decide +kernel
theorem dX9_deliver_188 : decode cX9_deliver 188 = .ok (.bipush 6, 2) := by decide +kernel
theorem dX9_deliver_190 : decode cX9_deliver 190 = .ok (.iadd, 1) := by decide +kernel
theorem dX9_deliver_191 : decode cX9_deliver 191 = .ok (.iconst 0, 1) := by decide +kernel
theorem dX9_deliver_192 : decode cX9_deliver 192 = .ok (.iastore, 1) := by decide +kernel
theorem dX9_deliver_193 : decode cX9_deliver 193 = .ok (.aload_n 0, 1) := by decide +kernel
theorem dX9_deliver_194 : decode cX9_deliver 194 = .ok (.getfield 91, 3) := by decide +kernel
theorem dX9_deliver_197 : decode cX9_deliver 197 = .ok (.iload 5, 2) := by decide +kernel
theorem dX9_deliver_199 : decode cX9_deliver 199 = .ok (.bipush 7, 2) := by decide +kernel
theorem dX9_deliver_201 : decode cX9_deliver 201 = .ok (.iadd, 1) := by decide +kernel
theorem dX9_deliver_202 : decode cX9_deliver 202 = .ok (.iconst (-1), 1) := by decide +kernel
theorem dX9_deliver_203 : decode cX9_deliver 203 = .ok (.iastore, 1) := by decide +kernel
theorem dX9_deliver_204 : decode cX9_deliver 204 = .ok (.aload_n 0, 1) := by decide +kernel
theorem dX9_deliver_205 : decode cX9_deliver 205 = .ok (.getfield 91, 3) := by decide +kernel
theorem dX9_deliver_208 : decode cX9_deliver 208 = .ok (.iload 5, 2) := by decide +kernel
theorem dX9_deliver_210 : decode cX9_deliver 210 = .ok (.bipush 8, 2) := by decide +kernel
theorem dX9_deliver_212 : decode cX9_deliver 212 = .ok (.iadd, 1) := by decide +kernel
theorem dX9_deliver_213 : decode cX9_deliver 213 = .ok (.iconst 0, 1) := by decide +kernel
theorem dX9_deliver_214 : decode cX9_deliver 214 = .ok (.iastore, 1) := by decide +kernel
theorem dX9_deliver_215 : decode cX9_deliver 215 = .ok (.aload_n 0, 1) := by decide +kernel
theorem dX9_deliver_216 : decode cX9_deliver 216 = .ok (.getfield 91, 3) := by decide +kernel
theorem dX9_deliver_219 : decode cX9_deliver 219 = .ok (.sipush 609, 3) := by decide +kernel
theorem dX9_deliver_222 : decode cX9_deliver 222 = .ok (.dup2, 1) := by decide +kernel
theorem dX9_deliver_223 : decode cX9_deliver 223 = .ok (.iaload, 1) := by decide +kernel
theorem dX9_deliver_224 : decode cX9_deliver 224 = .ok (.iconst 1, 1) := by decide +kernel
theorem dX9_deliver_225 : decode cX9_deliver 225 = .ok (.iadd, 1) := by decide +kernel
theorem dX9_deliver_226 : decode cX9_deliver 226 = .ok (.iastore, 1) := by decide +kernel
theorem dX9_deliver_227 : decode cX9_deliver 227 = .ok (.iload 4, 2) := by decide +kernel
theorem dX9_deliver_229 : decode cX9_deliver 229 = .ok (.ireturn, 1) := by decide +kernel
theorem dX9_close_0 : decode cX9_close 0 = .ok (.aload_n 0, 1) := by decide +kernel
theorem dX9_close_1 : decode cX9_close 1 = .ok (.iconst 0, 1) := by decide +kernel
theorem dX9_close_2 : decode cX9_close 2 = .ok (.putfield 1, 3) := by decide +kernel
theorem dX9_close_5 : decode cX9_close 5 = .ok (.aload_n 0, 1) := by decide +kernel
theorem dX9_close_6 : decode cX9_close 6 = .ok (.invokevirtual 163, 3) := by decide +kernel
theorem dX9_close_9 : decode cX9_close 9 = .ok (.bipush 35, 2) := by decide +kernel
theorem dX9_close_11 : decode cX9_close 11 = .ok (.if_icmp .ne 5, 3) := by decide +kernel
theorem dX9_close_14 : decode cX9_close 14 = .ok (.iconst (-1), 1) := by decide +kernel
theorem dX9_close_15 : decode cX9_close 15 = .ok (.ireturn, 1) := by decide +kernel
theorem dX9_close_16 : decode cX9_close 16 = .ok (.aload_n 0, 1) := by decide +kernel
theorem dX9_close_17 : decode cX9_close 17 = .ok (.invokevirtual 233, 3) := by decide +kernel
theorem dX9_close_20 : decode cX9_close 20 = .ok (.iconst 0, 1) := by decide +kernel
theorem dX9_close_21 : decode cX9_close 21 = .ok (.istore_n 1, 1) := by decide +kernel
theorem dX9_close_22 : decode cX9_close 22 = .ok (.iconst 0, 1) := by decide +kernel
theorem dX9_close_23 : decode cX9_close 23 = .ok (.istore_n 2, 1) := by decide +kernel
theorem dX9_close_24 : decode cX9_close 24 = .ok (.iload_n 2, 1) := by decide +kernel
theorem dX9_close_25 : decode cX9_close 25 = .ok (.aload_n 0, 1) := by decide +kernel
theorem dX9_close_26 : decode cX9_close 26 = .ok (.getfield 91, 3) := by decide +kernel
theorem dX9_close_29 : decode cX9_close 29 = .ok (.sipush 609, 3) := by decide +kernel
theorem dX9_close_32 : decode cX9_close 32 = .ok (.iaload, 1) := by decide +kernel
theorem dX9_close_33 : decode cX9_close 33 = .ok (.if_icmp .ge 107, 3) := by decide +kernel
theorem dX9_close_36 : decode cX9_close 36 = .ok (.aload_n 0, 1) := by decide +kernel
theorem dX9_close_37 : decode cX9_close 37 = .ok (.iload_n 2, 1) := by decide +kernel
theorem dX9_close_38 : decode cX9_close 38 = .ok (.bipush 6, 2) := by decide +kernel
theorem dX9_close_40 : decode cX9_close 40 = .ok (.invokevirtual 160, 3) := by decide +kernel
theorem dX9_close_43 : decode cX9_close 43 = .ok (.iconst 1, 1) := by decide +kernel
theorem dX9_close_44 : decode cX9_close 44 = .ok (.if_icmp .eq 90, 3) := by decide +kernel
theorem dX9_close_47 : decode cX9_close 47 = .ok (.aload_n 0, 1) := by decide +kernel
theorem dX9_close_48 : decode cX9_close 48 = .ok (.iload_n 2, 1) := by decide +kernel
theorem dX9_close_49 : decode cX9_close 49 = .ok (.invokevirtual 224, 3) := by decide +kernel
theorem dX9_close_52 : decode cX9_close 52 = .ok (.ifCond .eq 6, 3) := by decide +kernel
theorem dX9_close_55 : decode cX9_close 55 = .ok (.goto 79, 3) := by decide +kernel
theorem dX9_close_58 : decode cX9_close 58 = .ok (.sipush 610, 3) := by decide +kernel
theorem dX9_close_61 : decode cX9_close 61 = .ok (.bipush 9, 2) := by decide +kernel
theorem dX9_close_63 : decode cX9_close 63 = .ok (.iload_n 2, 1) := by decide +kernel
theorem dX9_close_64 : decode cX9_close 64 = .ok (.imul, 1) := by decide +kernel
theorem dX9_close_65 : decode cX9_close 65 = .ok (.iadd, 1) := by decide +kernel
theorem dX9_close_66 : decode cX9_close 66 = .ok (.istore_n 3, 1) := by decide +kernel
theorem dX9_close_67 : decode cX9_close 67 = .ok (.aload_n 0, 1) := by decide +kernel
theorem dX9_close_68 : decode cX9_close 68 = .ok (.getfield 91, 3) := by decide +kernel
theorem dX9_close_71 : decode cX9_close 71 = .ok (.iload_n 3, 1) := by decide +kernel
theorem dX9_close_72 : decode cX9_close 72 = .ok (.bipush 6, 2) := by decide +kernel
theorem dX9_close_74 : decode cX9_close 74 = .ok (.iadd, 1) := by decide +kernel
theorem dX9_close_75 : decode cX9_close 75 = .ok (.iconst 1, 1) := by decide +kernel
theorem dX9_close_76 : decode cX9_close 76 = .ok (.iastore, 1) := by decide +kernel
theorem dX9_close_77 : decode cX9_close 77 = .ok (.aload_n 0, 1) := by decide +kernel
theorem dX9_close_78 : decode cX9_close 78 = .ok (.getfield 91, 3) := by decide +kernel
theorem dX9_close_81 : decode cX9_close 81 = .ok (.iload_n 3, 1) := by decide +kernel
theorem dX9_close_82 : decode cX9_close 82 = .ok (.bipush 7, 2) := by decide +kernel
theorem dX9_close_84 : decode cX9_close 84 = .ok (.iadd, 1) := by decide +kernel
theorem dX9_close_85 : decode cX9_close 85 = .ok (.aload_n 0, 1) := by decide +kernel
theorem dX9_close_86 : decode cX9_close 86 = .ok (.invokevirtual 163, 3) := by decide +kernel
theorem dX9_close_89 : decode cX9_close 89 = .ok (.iastore, 1) := by decide +kernel
theorem dX9_close_90 : decode cX9_close 90 = .ok (.aload_n 0, 1) := by decide +kernel
theorem dX9_close_91 : decode cX9_close 91 = .ok (.getfield 91, 3) := by decide +kernel
theorem dX9_close_94 : decode cX9_close 94 = .ok (.iload_n 3, 1) := by decide +kernel
theorem dX9_close_95 : decode cX9_close 95 = .ok (.bipush 8, 2) := by decide +kernel
theorem dX9_close_97 : decode cX9_close 97 = .ok (.iadd, 1) := by decide +kernel
theorem dX9_close_98 : decode cX9_close 98 = .ok (.aload_n 0, 1) := by decide +kernel
theorem dX9_close_99 : decode cX9_close 99 = .ok (.iload_n 2, 1) := by decide +kernel
theorem dX9_close_100 : decode cX9_close 100 = .ok (.iconst 3, 1) := by decide +kernel
theorem dX9_close_101 : decode cX9_close 101 = .ok (.invokevirtual 160, 3) := by decide +kernel
theorem dX9_close_104 : decode cX9_close 104 = .ok (.i2l, 1) := by decide +kernel
theorem dX9_close_105 : decode cX9_close 105 = .ok (.aload_n 0, 1) := by decide +kernel
theorem dX9_close_106 : decode cX9_close 106 = .ok (.aload_n 0, 1) := by decide +kernel
theorem dX9_close_107 : decode cX9_close 107 = .ok (.iload_n 2, 1) := by decide +kernel
theorem dX9_close_108 : decode cX9_close 108 = .ok (.iconst 0, 1) := by decide +kernel
theorem dX9_close_109 : decode cX9_close 109 = .ok (.invokevirtual 160, 3) := by decide +kernel
theorem dX9_close_112 : decode cX9_close 112 = .ok (.aload_n 0, 1) := by decide +kernel
theorem dX9_close_113 : decode cX9_close 113 = .ok (.iload_n 2, 1) := by decide +kernel
theorem dX9_close_114 : decode cX9_close 114 = .ok (.iconst 4, 1) := by decide +kernel
theorem dX9_close_115 : decode cX9_close 115 = .ok (.invokevirtual 160, 3) := by decide +kernel
theorem dX9_close_118 : decode cX9_close 118 = .ok (.invokevirtual 215, 3) := by decide +kernel
theorem dX9_close_121 : decode cX9_close 121 = .ok (.i2l, 1) := by decide +kernel
theorem dX9_close_122 : decode cX9_close 122 = .ok (.lmul, 1) := by decide +kernel
theorem dX9_close_123 : decode cX9_close 123 = .ok (.aload_n 0, 1) := by decide +kernel
theorem dX9_close_124 : decode cX9_close 124 = .ok (.iload_n 2, 1) := by decide +kernel
theorem dX9_close_125 : decode cX9_close 125 = .ok (.invokevirtual 227, 3) := by decide +kernel
theorem dX9_close_128 : decode cX9_close 128 = .ok (.lsub, 1) := by decide +kernel
theorem dX9_close_129 : decode cX9_close 129 = .ok (.l2i, 1) := by decide +kernel
theorem dX9_close_130 : decode cX9_close 130 = .ok (.iastore, 1) := by decide +kernel
theorem dX9_close_131 : decode cX9_close 131 = .ok (.iinc 1 1, 3) := by decide +kernel
theorem dX9_close_134 : decode cX9_close 134 = .ok (.iinc 2 1, 3) := by decide +kernel
theorem dX9_close_137 : decode cX9_close 137 = .ok (.goto (-113), 3) := by decide +kernel
theorem dX9_close_140 : decode cX9_close 140 = .ok (.aload_n 0, 1) := by decide +kernel
theorem dX9_close_141 : decode cX9_close 141 = .ok (.getfield 91, 3) := by decide +kernel
theorem dX9_close_144 : decode cX9_close 144 = .ok (.iconst 0, 1) := by decide +kernel
theorem dX9_close_145 : decode cX9_close 145 = .ok (.dup2, 1) := by decide +kernel
theorem dX9_close_146 : decode cX9_close 146 = .ok (.iaload, 1) := by decide +kernel
theorem dX9_close_147 : decode cX9_close 147 = .ok (.iconst 1, 1) := by decide +kernel
theorem dX9_close_148 : decode cX9_close 148 = .ok (.iadd, 1) := by decide +kernel
theorem dX9_close_149 : decode cX9_close 149 = .ok (.iastore, 1) := by decide +kernel
theorem dX9_close_150 : decode cX9_close 150 = .ok (.iload_n 1, 1) := by decide +kernel
theorem dX9_close_151 : decode cX9_close 151 = .ok (.ireturn, 1) := by decide +kernel
theorem dX9_undo_0 : decode cX9_undo 0 = .ok (.aload_n 0, 1) := by decide +kernel
theorem dX9_undo_1 : decode cX9_undo 1 = .ok (.iconst 0, 1) := by decide +kernel
theorem dX9_undo_2 : decode cX9_undo 2 = .ok (.putfield 1, 3) := by decide +kernel
theorem dX9_undo_5 : decode cX9_undo 5 = .ok (.aload_n 0, 1) := by decide +kernel
theorem dX9_undo_6 : decode cX9_undo 6 = .ok (.getfield 153, 3) := by decide +kernel
theorem dX9_undo_9 : decode cX9_undo 9 = .ok (.ifCond .ne 5, 3) := by decide +kernel
theorem dX9_undo_12 : decode cX9_undo 12 = .ok (.iconst (-1), 1) := by decide +kernel
theorem dX9_undo_13 : decode cX9_undo 13 = .ok (.ireturn, 1) := by decide +kernel
theorem dX9_undo_14 : decode cX9_undo 14 = .ok (.aload_n 0, 1) := by decide +kernel
theorem dX9_undo_15 : decode cX9_undo 15 = .ok (.dup, 1) := by decide +kernel
theorem dX9_undo_16 : decode cX9_undo 16 = .ok (.getfield 153, 3) := by decide +kernel
theorem dX9_undo_19 : decode cX9_undo 19 = .ok (.iconst 1, 1) := by decide +kernel
theorem dX9_undo_20 : decode cX9_undo 20 = .ok (.isub, 1) := by decide +kernel
theorem dX9_undo_21 : decode cX9_undo 21 = .ok (.putfield 153, 3) := by decide +kernel
theorem dX9_undo_24 : decode cX9_undo 24 = .ok (.iconst 0, 1) := by decide +kernel
theorem dX9_undo_25 : decode cX9_undo 25 = .ok (.istore_n 1, 1) := by decide +kernel
theorem dX9_undo_26 : decode cX9_undo 26 = .ok (.iload_n 1, 1) := by decide +kernel
theorem dX9_undo_27 : decode cX9_undo 27 = .ok (.sipush 880, 3) := by decide +kernel
theorem dX9_undo_30 : decode cX9_undo 30 = .ok (.if_icmp .ge 30, 3) := by decide +kernel
theorem dX9_undo_33 : decode cX9_undo 33 = .ok (.aload_n 0, 1) := by decide +kernel
theorem dX9_undo_34 : decode cX9_undo 34 = .ok (.getfield 91, 3) := by decide +kernel
theorem dX9_undo_37 : decode cX9_undo 37 = .ok (.iload_n 1, 1) := by decide +kernel
theorem dX9_undo_38 : decode cX9_undo 38 = .ok (.aload_n 0, 1) := by decide +kernel
theorem dX9_undo_39 : decode cX9_undo 39 = .ok (.getfield 97, 3) := by decide +kernel
theorem dX9_undo_42 : decode cX9_undo 42 = .ok (.sipush 880, 3) := by decide +kernel
theorem dX9_undo_45 : decode cX9_undo 45 = .ok (.aload_n 0, 1) := by decide +kernel
theorem dX9_undo_46 : decode cX9_undo 46 = .ok (.getfield 153, 3) := by decide +kernel
theorem dX9_undo_49 : decode cX9_undo 49 = .ok (.imul, 1) := by decide +kernel
theorem dX9_undo_50 : decode cX9_undo 50 = .ok (.iload_n 1, 1) := by decide +kernel
theorem dX9_undo_51 : decode cX9_undo 51 = .ok (.iadd, 1) := by decide +kernel
theorem dX9_undo_52 : decode cX9_undo 52 = .ok (.iaload, 1) := by decide +kernel
theorem dX9_undo_53 : decode cX9_undo 53 = .ok (.iastore, 1) := by decide +kernel
theorem dX9_undo_54 : decode cX9_undo 54 = .ok (.iinc 1 1, 3) := by decide +kernel
theorem dX9_undo_57 : decode cX9_undo 57 = .ok (.goto (-31), 3) := by decide +kernel
theorem dX9_undo_60 : decode cX9_undo 60 = .ok (.aload_n 0, 1) := by decide +kernel
theorem dX9_undo_61 : decode cX9_undo 61 = .ok (.getfield 153, 3) := by decide +kernel
theorem dX9_undo_64 : decode cX9_undo 64 = .ok (.ireturn, 1) := by decide +kernel
theorem dL_ratio_0 : decode cL_ratio 0 = .ok (.aload 4, 2) := by decide +kernel
theorem dL_ratio_2 : decode cL_ratio 2 = .ok (.iconst 0, 1) := by decide +kernel
theorem dL_ratio_3 : decode cL_ratio 3 = .ok (.aload_n 0, 1) := by decide +kernel
theorem dL_ratio_4 : decode cL_ratio 4 = .ok (.iload_n 1, 1) := by decide +kernel
theorem dL_ratio_5 : decode cL_ratio 5 = .ok (.iload_n 2, 1) := by decide +kernel
theorem dL_ratio_6 : decode cL_ratio 6 = .ok (.iload_n 3, 1) := by decide +kernel
theorem dL_ratio_7 : decode cL_ratio 7 = .ok (.invokevirtual 7, 3) := by decide +kernel
theorem dL_ratio_10 : decode cL_ratio 10 = .ok (.i2l, 1) := by decide +kernel
theorem dL_ratio_11 : decode cL_ratio 11 = .ok (.lastore, 1) := by decide +kernel
theorem dL_ratio_12 : decode cL_ratio 12 = .ok (.goto 7, 3) := by decide +kernel
theorem dL_ratio_15 : decode cL_ratio 15 = .ok (.astore 5, 2) := by decide +kernel
theorem dL_ratio_17 : decode cL_ratio 17 = .ok (.iconst 1, 1) := by decide +kernel
theorem dL_ratio_18 : decode cL_ratio 18 = .ok (.ireturn, 1) := by decide +kernel
theorem dL_ratio_19 : decode cL_ratio 19 = .ok (.iconst 0, 1) := by decide +kernel
theorem dL_ratio_20 : decode cL_ratio 20 = .ok (.ireturn, 1) := by decide +kernel
theorem dL_price_0 : decode cL_price 0 = .ok (.aload 4, 2) := by decide +kernel
theorem dL_price_2 : decode cL_price 2 = .ok (.iconst 0, 1) := by decide +kernel
theorem dL_price_3 : decode cL_price 3 = .ok (.aload_n 0, 1) := by decide +kernel
theorem dL_price_4 : decode cL_price 4 = .ok (.iload_n 1, 1) := by decide +kernel
theorem dL_price_5 : decode cL_price 5 = .ok (.iload_n 2, 1) := by decide +kernel
theorem dL_price_6 : decode cL_price 6 = .ok (.iload_n 3, 1) := by decide +kernel
theorem dL_price_7 : decode cL_price 7 = .ok (.invokevirtual 15, 3) := by decide +kernel
theorem dL_price_10 : decode cL_price 10 = .ok (.i2l, 1) := by decide +kernel
theorem dL_price_11 : decode cL_price 11 = .ok (.lastore, 1) := by decide +kernel
theorem dL_price_12 : decode cL_price 12 = .ok (.goto 7, 3) := by decide +kernel
theorem dL_price_15 : decode cL_price 15 = .ok (.astore 5, 2) := by decide +kernel
theorem dL_price_17 : decode cL_price 17 = .ok (.iconst 1, 1) := by decide +kernel
theorem dL_price_18 : decode cL_price 18 = .ok (.ireturn, 1) := by decide +kernel
theorem dL_price_19 : decode cL_price 19 = .ok (.iconst 0, 1) := by decide +kernel
theorem dL_price_20 : decode cL_price 20 = .ok (.ireturn, 1) := by decide +kernel
theorem dL_amount_0 : decode cL_amount 0 = .ok (.aload_n 3, 1) := by decide +kernel
theorem dL_amount_1 : decode cL_amount 1 = .ok (.iconst 0, 1) := by decide +kernel
theorem dL_amount_2 : decode cL_amount 2 = .ok (.aload_n 0, 1) := by decide +kernel
theorem dL_amount_3 : decode cL_amount 3 = .ok (.iload_n 1, 1) := by decide +kernel
theorem dL_amount_4 : decode cL_amount 4 = .ok (.iload_n 2, 1) := by decide +kernel
theorem dL_amount_5 : decode cL_amount 5 = .ok (.invokevirtual 18, 3) := by decide +kernel
theorem dL_amount_8 : decode cL_amount 8 = .ok (.lastore, 1) := by decide +kernel
theorem dL_amount_9 : decode cL_amount 9 = .ok (.goto 7, 3) := by decide +kernel
theorem dL_amount_12 : decode cL_amount 12 = .ok (.astore 4, 2) := by decide +kernel
theorem dL_amount_14 : decode cL_amount 14 = .ok (.iconst 1, 1) := by decide +kernel
theorem dL_amount_15 : decode cL_amount 15 = .ok (.ireturn, 1) := by decide +kernel
theorem dL_amount_16 : decode cL_amount 16 = .ok (.iconst 0, 1) := by decide +kernel
theorem dL_amount_17 : decode cL_amount 17 = .ok (.ireturn, 1) := by decide +kernel
theorem dL_statement_0 : decode cL_statement 0 = .ok (.aload_n 3, 1) := by decide +kernel
theorem dL_statement_1 : decode cL_statement 1 = .ok (.iconst 0, 1) := by decide +kernel
theorem dL_statement_2 : decode cL_statement 2 = .ok (.aload_n 0, 1) := by decide +kernel
theorem dL_statement_3 : decode cL_statement 3 = .ok (.iload_n 1, 1) := by decide +kernel
theorem dL_statement_4 : decode cL_statement 4 = .ok (.iload_n 2, 1) := by decide +kernel
theorem dL_statement_5 : decode cL_statement 5 = .ok (.invokevirtual 22, 3) := by decide +kernel
theorem dL_statement_8 : decode cL_statement 8 = .ok (.lastore, 1) := by decide +kernel
theorem dL_statement_9 : decode cL_statement 9 = .ok (.goto 7, 3) := by decide +kernel
theorem dL_statement_12 : decode cL_statement 12 = .ok (.astore 4, 2) := by decide +kernel
theorem dL_statement_14 : decode cL_statement 14 = .ok (.iconst 1, 1) := by decide +kernel
theorem dL_statement_15 : decode cL_statement 15 = .ok (.ireturn, 1) := by decide +kernel
theorem dL_statement_16 : decode cL_statement 16 = .ok (.iconst 0, 1) := by decide +kernel
theorem dL_statement_17 : decode cL_statement 17 = .ok (.ireturn, 1) := by decide +kernel
theorem dL_law_0 : decode cL_law 0 = .ok (.new 8, 3) := by decide +kernel
theorem dL_law_3 : decode cL_law 3 = .ok (.dup, 1) := by decide +kernel
theorem dL_law_4 : decode cL_law 4 = .ok (.invokespecial 25, 3) := by decide +kernel
theorem dL_law_7 : decode cL_law 7 = .ok (.astore_n 1, 1) := by decide +kernel
theorem dL_law_8 : decode cL_law 8 = .ok (.new 26, 3) := by decide +kernel
theorem dL_law_11 : decode cL_law 11 = .ok (.dup, 1) := by decide +kernel
theorem dL_law_12 : decode cL_law 12 = .ok (.invokespecial 28, 3) := by decide +kernel
theorem dL_law_15 : decode cL_law 15 = .ok (.astore_n 2, 1) := by decide +kernel
theorem dL_law_16 : decode cL_law 16 = .ok (.iconst 1, 1) := by decide +kernel
theorem dL_law_17 : decode cL_law 17 = .ok (.newarray .long, 2) := by decide +kernel
theorem dL_law_19 : decode cL_law 19 = .ok (.astore_n 3, 1) := by decide +kernel
theorem dL_law_20 : decode cL_law 20 = .ok (.iconst 0, 1) := by decide +kernel
theorem dL_law_21 : decode cL_law 21 = .ok (.istore 4, 2) := by decide +kernel
theorem dL_law_23 : decode cL_law 23 = .ok (.iload 4, 2) := by decide +kernel
theorem dL_law_25 : decode cL_law 25 = .ok (.aload_n 0, 1) := by decide +kernel
theorem dL_law_26 : decode cL_law 26 = .ok (.arraylength, 1) := by decide +kernel
theorem dL_law_27 : decode cL_law 27 = .ok (.bipush 6, 2) := by decide +kernel
theorem dL_law_29 : decode cL_law 29 = .ok (.isub, 1) := by decide +kernel
theorem dL_law_30 : decode cL_law 30 = .ok (.if_icmp .gt 1014, 3) := by decide +kernel
theorem dL_law_33 : decode cL_law 33 = .ok (.aload_n 0, 1) := by decide +kernel
theorem dL_law_34 : decode cL_law 34 = .ok (.iload 4, 2) := by decide +kernel
theorem dL_law_36 : decode cL_law 36 = .ok (.iaload, 1) := by decide +kernel
theorem dL_law_37 : decode cL_law 37 = .ok (.bipush 31, 2) := by decide +kernel
theorem dL_law_39 : decode cL_law 39 = .ok (.iand, 1) := by decide +kernel
theorem dL_law_40 : decode cL_law 40 = .ok (.tableswitch 998 0 19 #[96, 169, 194, 207, 220, 245, 294, 343, 423, 460, 540, 589, 626, 663, 730, 797, 874, 923, 972, 985], 96) := by decide +kernel
theorem dL_law_136 : decode cL_law 136 = .ok (.aload_n 1, 1) := by decide +kernel
theorem dL_law_137 : decode cL_law 137 = .ok (.aload_n 0, 1) := by decide +kernel
theorem dL_law_138 : decode cL_law 138 = .ok (.iload 4, 2) := by decide +kernel
theorem dL_law_140 : decode cL_law 140 = .ok (.iconst 1, 1) := by decide +kernel
theorem dL_law_141 : decode cL_law 141 = .ok (.iadd, 1) := by decide +kernel
theorem dL_law_142 : decode cL_law 142 = .ok (.iaload, 1) := by decide +kernel
theorem dL_law_143 : decode cL_law 143 = .ok (.aload_n 0, 1) := by decide +kernel
theorem dL_law_144 : decode cL_law 144 = .ok (.iload 4, 2) := by decide +kernel
theorem dL_law_146 : decode cL_law 146 = .ok (.iconst 2, 1) := by decide +kernel
theorem dL_law_147 : decode cL_law 147 = .ok (.iadd, 1) := by decide +kernel
theorem dL_law_148 : decode cL_law 148 = .ok (.iaload, 1) := by decide +kernel
theorem dL_law_149 : decode cL_law 149 = .ok (.aload_n 0, 1) := by decide +kernel
theorem dL_law_150 : decode cL_law 150 = .ok (.iload 4, 2) := by decide +kernel
theorem dL_law_152 : decode cL_law 152 = .ok (.iconst 3, 1) := by decide +kernel
theorem dL_law_153 : decode cL_law 153 = .ok (.iadd, 1) := by decide +kernel
theorem dL_law_154 : decode cL_law 154 = .ok (.iaload, 1) := by decide +kernel
theorem dL_law_155 : decode cL_law 155 = .ok (.aload_n 0, 1) := by decide +kernel
theorem dL_law_156 : decode cL_law 156 = .ok (.iload 4, 2) := by decide +kernel
theorem dL_law_158 : decode cL_law 158 = .ok (.iconst 4, 1) := by decide +kernel
theorem dL_law_159 : decode cL_law 159 = .ok (.iadd, 1) := by decide +kernel
theorem dL_law_160 : decode cL_law 160 = .ok (.iaload, 1) := by decide +kernel
theorem dL_law_161 : decode cL_law 161 = .ok (.aload_n 0, 1) := by decide +kernel
theorem dL_law_162 : decode cL_law 162 = .ok (.iload 4, 2) := by decide +kernel
theorem dL_law_164 : decode cL_law 164 = .ok (.iconst 5, 1) := by decide +kernel
theorem dL_law_165 : decode cL_law 165 = .ok (.iadd, 1) := by decide +kernel
theorem dL_law_166 : decode cL_law 166 = .ok (.iaload, 1) := by decide +kernel
theorem dL_law_167 : decode cL_law 167 = .ok (.invokevirtual 29, 3) := by decide +kernel
theorem dL_law_170 : decode cL_law 170 = .ok (.aload_n 2, 1) := by decide +kernel
theorem dL_law_171 : decode cL_law 171 = .ok (.aload_n 0, 1) := by decide +kernel
theorem dL_law_172 : decode cL_law 172 = .ok (.iload 4, 2) := by decide +kernel
theorem dL_law_174 : decode cL_law 174 = .ok (.iconst 1, 1) := by decide +kernel
theorem dL_law_175 : decode cL_law 175 = .ok (.iadd, 1) := by decide +kernel
theorem dL_law_176 : decode cL_law 176 = .ok (.iaload, 1) := by decide +kernel
theorem dL_law_177 : decode cL_law 177 = .ok (.aload_n 0, 1) := by decide +kernel
theorem dL_law_178 : decode cL_law 178 = .ok (.iload 4, 2) := by decide +kernel
theorem dL_law_180 : decode cL_law 180 = .ok (.iconst 2, 1) := by decide +kernel
theorem dL_law_181 : decode cL_law 181 = .ok (.iadd, 1) := by decide +kernel
theorem dL_law_182 : decode cL_law 182 = .ok (.iaload, 1) := by decide +kernel
theorem dL_law_183 : decode cL_law 183 = .ok (.aload_n 0, 1) := by decide +kernel
theorem dL_law_184 : decode cL_law 184 = .ok (.iload 4, 2) := by decide +kernel
theorem dL_law_186 : decode cL_law 186 = .ok (.iconst 3, 1) := by decide +kernel
theorem dL_law_187 : decode cL_law 187 = .ok (.iadd, 1) := by decide +kernel
theorem dL_law_188 : decode cL_law 188 = .ok (.iaload, 1) := by decide +kernel
theorem dL_law_189 : decode cL_law 189 = .ok (.aload_n 0, 1) := by decide +kernel
theorem dL_law_190 : decode cL_law 190 = .ok (.iload 4, 2) := by decide +kernel
theorem dL_law_192 : decode cL_law 192 = .ok (.iconst 4, 1) := by decide +kernel
theorem dL_law_193 : decode cL_law 193 = .ok (.iadd, 1) := by decide +kernel
theorem dL_law_194 : decode cL_law 194 = .ok (.iaload, 1) := by decide +kernel
theorem dL_law_195 : decode cL_law 195 = .ok (.aload_n 0, 1) := by decide +kernel
theorem dL_law_196 : decode cL_law 196 = .ok (.iload 4, 2) := by decide +kernel
theorem dL_law_198 : decode cL_law 198 = .ok (.iconst 5, 1) := by decide +kernel
theorem dL_law_199 : decode cL_law 199 = .ok (.iadd, 1) := by decide +kernel
theorem dL_law_200 : decode cL_law 200 = .ok (.iaload, 1) := by decide +kernel
theorem dL_law_201 : decode cL_law 201 = .ok (.invokevirtual 33, 3) := by decide +kernel
theorem dL_law_204 : decode cL_law 204 = .ok (.if_icmp .eq 834, 3) := by decide +kernel
theorem dL_law_207 : decode cL_law 207 = .ok (.iconst 0, 1) := by decide +kernel
theorem dL_law_208 : decode cL_law 208 = .ok (.ireturn, 1) := by decide +kernel
theorem dL_law_209 : decode cL_law 209 = .ok (.aload_n 1, 1) := by decide +kernel
theorem dL_law_210 : decode cL_law 210 = .ok (.aload_n 0, 1) := by decide +kernel
theorem dL_law_211 : decode cL_law 211 = .ok (.iload 4, 2) := by decide +kernel
theorem dL_law_213 : decode cL_law 213 = .ok (.iconst 1, 1) := by decide +kernel
theorem dL_law_214 : decode cL_law 214 = .ok (.iadd, 1) := by decide +kernel
theorem dL_law_215 : decode cL_law 215 = .ok (.iaload, 1) := by decide +kernel
theorem dL_law_216 : decode cL_law 216 = .ok (.invokevirtual 34, 3) := by decide +kernel
theorem dL_law_219 : decode cL_law 219 = .ok (.aload_n 2, 1) := by decide +kernel
theorem dL_law_220 : decode cL_law 220 = .ok (.aload_n 0, 1) := by decide +kernel
theorem dL_law_221 : decode cL_law 221 = .ok (.iload 4, 2) := by decide +kernel
theorem dL_law_223 : decode cL_law 223 = .ok (.iconst 1, 1) := by decide +kernel
theorem dL_law_224 : decode cL_law 224 = .ok (.iadd, 1) := by decide +kernel
theorem dL_law_225 : decode cL_law 225 = .ok (.iaload, 1) := by decide +kernel
theorem dL_law_226 : decode cL_law 226 = .ok (.invokevirtual 38, 3) := by decide +kernel
theorem dL_law_229 : decode cL_law 229 = .ok (.if_icmp .eq 809, 3) := by decide +kernel
theorem dL_law_232 : decode cL_law 232 = .ok (.iconst 0, 1) := by decide +kernel
theorem dL_law_233 : decode cL_law 233 = .ok (.ireturn, 1) := by decide +kernel
theorem dL_law_234 : decode cL_law 234 = .ok (.aload_n 1, 1) := by decide +kernel
theorem dL_law_235 : decode cL_law 235 = .ok (.invokevirtual 39, 3) := by decide +kernel
theorem dL_law_238 : decode cL_law 238 = .ok (.aload_n 2, 1) := by decide +kernel
theorem dL_law_239 : decode cL_law 239 = .ok (.invokevirtual 43, 3) := by decide +kernel
theorem dL_law_242 : decode cL_law 242 = .ok (.if_icmp .eq 796, 3) := by decide +kernel
theorem dL_law_245 : decode cL_law 245 = .ok (.iconst 0, 1) := by decide +kernel
theorem dL_law_246 : decode cL_law 246 = .ok (.ireturn, 1) := by decide +kernel
theorem dL_law_247 : decode cL_law 247 = .ok (.aload_n 1, 1) := by decide +kernel
theorem dL_law_248 : decode cL_law 248 = .ok (.invokevirtual 44, 3) := by decide +kernel
theorem dL_law_251 : decode cL_law 251 = .ok (.aload_n 2, 1) := by decide +kernel
theorem dL_law_252 : decode cL_law 252 = .ok (.invokevirtual 47, 3) := by decide +kernel
theorem dL_law_255 : decode cL_law 255 = .ok (.if_icmp .eq 783, 3) := by decide +kernel
theorem dL_law_258 : decode cL_law 258 = .ok (.iconst 0, 1) := by decide +kernel
theorem dL_law_259 : decode cL_law 259 = .ok (.ireturn, 1) := by decide +kernel
theorem dL_law_260 : decode cL_law 260 = .ok (.aload_n 1, 1) := by decide +kernel
theorem dL_law_261 : decode cL_law 261 = .ok (.aload_n 0, 1) := by decide +kernel
theorem dL_law_262 : decode cL_law 262 = .ok (.iload 4, 2) := by decide +kernel
theorem dL_law_264 : decode cL_law 264 = .ok (.iconst 1, 1) := by decide +kernel
theorem dL_law_265 : decode cL_law 265 = .ok (.iadd, 1) := by decide +kernel
theorem dL_law_266 : decode cL_law 266 = .ok (.iaload, 1) := by decide +kernel
theorem dL_law_267 : decode cL_law 267 = .ok (.invokevirtual 48, 3) := by decide +kernel
theorem dL_law_270 : decode cL_law 270 = .ok (.aload_n 2, 1) := by decide +kernel
theorem dL_law_271 : decode cL_law 271 = .ok (.aload_n 0, 1) := by decide +kernel
theorem dL_law_272 : decode cL_law 272 = .ok (.iload 4, 2) := by decide +kernel
theorem dL_law_274 : decode cL_law 274 = .ok (.iconst 1, 1) := by decide +kernel
theorem dL_law_275 : decode cL_law 275 = .ok (.iadd, 1) := by decide +kernel
theorem dL_law_276 : decode cL_law 276 = .ok (.iaload, 1) := by decide +kernel
theorem dL_law_277 : decode cL_law 277 = .ok (.invokevirtual 52, 3) := by decide +kernel
theorem dL_law_280 : decode cL_law 280 = .ok (.if_icmp .eq 758, 3) := by decide +kernel
theorem dL_law_283 : decode cL_law 283 = .ok (.iconst 0, 1) := by decide +kernel
theorem dL_law_284 : decode cL_law 284 = .ok (.ireturn, 1) := by decide +kernel
theorem dL_law_285 : decode cL_law 285 = .ok (.aload_n 1, 1) := by decide +kernel
theorem dL_law_286 : decode cL_law 286 = .ok (.aload_n 0, 1) := by decide +kernel
theorem dL_law_287 : decode cL_law 287 = .ok (.iload 4, 2) := by decide +kernel
theorem dL_law_289 : decode cL_law 289 = .ok (.iconst 1, 1) := by decide +kernel
theorem dL_law_290 : decode cL_law 290 = .ok (.iadd, 1) := by decide +kernel
theorem dL_law_291 : decode cL_law 291 = .ok (.iaload, 1) := by decide +kernel
theorem dL_law_292 : decode cL_law 292 = .ok (.aload_n 0, 1) := by decide +kernel
theorem dL_law_293 : decode cL_law 293 = .ok (.iload 4, 2) := by decide +kernel
theorem dL_law_295 : decode cL_law 295 = .ok (.iconst 2, 1) := by decide +kernel
theorem dL_law_296 : decode cL_law 296 = .ok (.iadd, 1) := by decide +kernel
theorem dL_law_297 : decode cL_law 297 = .ok (.iaload, 1) := by decide +kernel
theorem dL_law_298 : decode cL_law 298 = .ok (.aload_n 0, 1) := by decide +kernel
theorem dL_law_299 : decode cL_law 299 = .ok (.iload 4, 2) := by decide +kernel
theorem dL_law_301 : decode cL_law 301 = .ok (.iconst 3, 1) := by decide +kernel
theorem dL_law_302 : decode cL_law 302 = .ok (.iadd, 1) := by decide +kernel
theorem dL_law_303 : decode cL_law 303 = .ok (.iaload, 1) := by decide +kernel
theorem dL_law_304 : decode cL_law 304 = .ok (.invokevirtual 53, 3) := by decide +kernel
theorem dL_law_307 : decode cL_law 307 = .ok (.aload_n 2, 1) := by decide +kernel
theorem dL_law_308 : decode cL_law 308 = .ok (.aload_n 0, 1) := by decide +kernel
theorem dL_law_309 : decode cL_law 309 = .ok (.iload 4, 2) := by decide +kernel
theorem dL_law_311 : decode cL_law 311 = .ok (.iconst 1, 1) := by decide +kernel
theorem dL_law_312 : decode cL_law 312 = .ok (.iadd, 1) := by decide +kernel
theorem dL_law_313 : decode cL_law 313 = .ok (.iaload, 1) := by decide +kernel
theorem dL_law_314 : decode cL_law 314 = .ok (.aload_n 0, 1) := by decide +kernel
theorem dL_law_315 : decode cL_law 315 = .ok (.iload 4, 2) := by decide +kernel
theorem dL_law_317 : decode cL_law 317 = .ok (.iconst 2, 1) := by decide +kernel
theorem dL_law_318 : decode cL_law 318 = .ok (.iadd, 1) := by decide +kernel
theorem dL_law_319 : decode cL_law 319 = .ok (.iaload, 1) := by decide +kernel
theorem dL_law_320 : decode cL_law 320 = .ok (.aload_n 0, 1) := by decide +kernel
theorem dL_law_321 : decode cL_law 321 = .ok (.iload 4, 2) := by decide +kernel
theorem dL_law_323 : decode cL_law 323 = .ok (.iconst 3, 1) := by decide +kernel
theorem dL_law_324 : decode cL_law 324 = .ok (.iadd, 1) := by decide +kernel
theorem dL_law_325 : decode cL_law 325 = .ok (.iaload, 1) := by decide +kernel
theorem dL_law_326 : decode cL_law 326 = .ok (.invokevirtual 56, 3) := by decide +kernel
theorem dL_law_329 : decode cL_law 329 = .ok (.if_icmp .eq 709, 3) := by decide +kernel
theorem dL_law_332 : decode cL_law 332 = .ok (.iconst 0, 1) := by decide +kernel
theorem dL_law_333 : decode cL_law 333 = .ok (.ireturn, 1) := by decide +kernel
theorem dL_law_334 : decode cL_law 334 = .ok (.aload_n 1, 1) := by decide +kernel
theorem dL_law_335 : decode cL_law 335 = .ok (.aload_n 0, 1) := by decide +kernel
theorem dL_law_336 : decode cL_law 336 = .ok (.iload 4, 2) := by decide +kernel
theorem dL_law_338 : decode cL_law 338 = .ok (.iconst 1, 1) := by decide +kernel
theorem dL_law_339 : decode cL_law 339 = .ok (.iadd, 1) := by decide +kernel
theorem dL_law_340 : decode cL_law 340 = .ok (.iaload, 1) := by decide +kernel
theorem dL_law_341 : decode cL_law 341 = .ok (.aload_n 0, 1) := by decide +kernel
theorem dL_law_342 : decode cL_law 342 = .ok (.iload 4, 2) := by decide +kernel
theorem dL_law_344 : decode cL_law 344 = .ok (.iconst 2, 1) := by decide +kernel
theorem dL_law_345 : decode cL_law 345 = .ok (.iadd, 1) := by decide +kernel
theorem dL_law_346 : decode cL_law 346 = .ok (.iaload, 1) := by decide +kernel
theorem dL_law_347 : decode cL_law 347 = .ok (.aload_n 0, 1) := by decide +kernel
theorem dL_law_348 : decode cL_law 348 = .ok (.iload 4, 2) := by decide +kernel
theorem dL_law_350 : decode cL_law 350 = .ok (.iconst 3, 1) := by decide +kernel
theorem dL_law_351 : decode cL_law 351 = .ok (.iadd, 1) := by decide +kernel
theorem dL_law_352 : decode cL_law 352 = .ok (.iaload, 1) := by decide +kernel
theorem dL_law_353 : decode cL_law 353 = .ok (.invokevirtual 57, 3) := by decide +kernel
theorem dL_law_356 : decode cL_law 356 = .ok (.aload_n 2, 1) := by decide +kernel
theorem dL_law_357 : decode cL_law 357 = .ok (.aload_n 0, 1) := by decide +kernel
theorem dL_law_358 : decode cL_law 358 = .ok (.iload 4, 2) := by decide +kernel
theorem dL_law_360 : decode cL_law 360 = .ok (.iconst 1, 1) := by decide +kernel
theorem dL_law_361 : decode cL_law 361 = .ok (.iadd, 1) := by decide +kernel
theorem dL_law_362 : decode cL_law 362 = .ok (.iaload, 1) := by decide +kernel
theorem dL_law_363 : decode cL_law 363 = .ok (.aload_n 0, 1) := by decide +kernel
theorem dL_law_364 : decode cL_law 364 = .ok (.iload 4, 2) := by decide +kernel
theorem dL_law_366 : decode cL_law 366 = .ok (.iconst 2, 1) := by decide +kernel
theorem dL_law_367 : decode cL_law 367 = .ok (.iadd, 1) := by decide +kernel
theorem dL_law_368 : decode cL_law 368 = .ok (.iaload, 1) := by decide +kernel
theorem dL_law_369 : decode cL_law 369 = .ok (.aload_n 0, 1) := by decide +kernel
theorem dL_law_370 : decode cL_law 370 = .ok (.iload 4, 2) := by decide +kernel
theorem dL_law_372 : decode cL_law 372 = .ok (.iconst 3, 1) := by decide +kernel
theorem dL_law_373 : decode cL_law 373 = .ok (.iadd, 1) := by decide +kernel
theorem dL_law_374 : decode cL_law 374 = .ok (.iaload, 1) := by decide +kernel
theorem dL_law_375 : decode cL_law 375 = .ok (.invokevirtual 60, 3) := by decide +kernel
theorem dL_law_378 : decode cL_law 378 = .ok (.if_icmp .eq 660, 3) := by decide +kernel
theorem dL_law_381 : decode cL_law 381 = .ok (.iconst 0, 1) := by decide +kernel
theorem dL_law_382 : decode cL_law 382 = .ok (.ireturn, 1) := by decide +kernel
theorem dL_law_383 : decode cL_law 383 = .ok (.aload_n 1, 1) := by decide +kernel
theorem dL_law_384 : decode cL_law 384 = .ok (.aload_n 0, 1) := by decide +kernel
theorem dL_law_385 : decode cL_law 385 = .ok (.iload 4, 2) := by decide +kernel
theorem dL_law_387 : decode cL_law 387 = .ok (.iconst 1, 1) := by decide +kernel
theorem dL_law_388 : decode cL_law 388 = .ok (.iadd, 1) := by decide +kernel
theorem dL_law_389 : decode cL_law 389 = .ok (.iaload, 1) := by decide +kernel
theorem dL_law_390 : decode cL_law 390 = .ok (.aload_n 0, 1) := by decide +kernel
theorem dL_law_391 : decode cL_law 391 = .ok (.iload 4, 2) := by decide +kernel
theorem dL_law_393 : decode cL_law 393 = .ok (.iconst 2, 1) := by decide +kernel
theorem dL_law_394 : decode cL_law 394 = .ok (.iadd, 1) := by decide +kernel
theorem dL_law_395 : decode cL_law 395 = .ok (.iaload, 1) := by decide +kernel
theorem dL_law_396 : decode cL_law 396 = .ok (.aload_n 0, 1) := by decide +kernel
theorem dL_law_397 : decode cL_law 397 = .ok (.iload 4, 2) := by decide +kernel
theorem dL_law_399 : decode cL_law 399 = .ok (.iconst 3, 1) := by decide +kernel
theorem dL_law_400 : decode cL_law 400 = .ok (.iadd, 1) := by decide +kernel
theorem dL_law_401 : decode cL_law 401 = .ok (.iaload, 1) := by decide +kernel
theorem dL_law_402 : decode cL_law 402 = .ok (.aload_n 3, 1) := by decide +kernel
theorem dL_law_403 : decode cL_law 403 = .ok (.invokestatic 61, 3) := by decide +kernel
theorem dL_law_406 : decode cL_law 406 = .ok (.istore 5, 2) := by decide +kernel
theorem dL_law_408 : decode cL_law 408 = .ok (.aload_n 2, 1) := by decide +kernel
theorem dL_law_409 : decode cL_law 409 = .ok (.aload_n 0, 1) := by decide +kernel
theorem dL_law_410 : decode cL_law 410 = .ok (.iload 4, 2) := by decide +kernel
theorem dL_law_412 : decode cL_law 412 = .ok (.iconst 1, 1) := by decide +kernel
theorem dL_law_413 : decode cL_law 413 = .ok (.iadd, 1) := by decide +kernel
theorem dL_law_414 : decode cL_law 414 = .ok (.iaload, 1) := by decide +kernel
theorem dL_law_415 : decode cL_law 415 = .ok (.aload_n 0, 1) := by decide +kernel
theorem dL_law_416 : decode cL_law 416 = .ok (.iload 4, 2) := by decide +kernel
theorem dL_law_418 : decode cL_law 418 = .ok (.iconst 2, 1) := by decide +kernel
theorem dL_law_419 : decode cL_law 419 = .ok (.iadd, 1) := by decide +kernel
theorem dL_law_420 : decode cL_law 420 = .ok (.iaload, 1) := by decide +kernel
theorem dL_law_421 : decode cL_law 421 = .ok (.aload_n 0, 1) := by decide +kernel
theorem dL_law_422 : decode cL_law 422 = .ok (.iload 4, 2) := by decide +kernel
theorem dL_law_424 : decode cL_law 424 = .ok (.iconst 3, 1) := by decide +kernel
theorem dL_law_425 : decode cL_law 425 = .ok (.iadd, 1) := by decide +kernel
theorem dL_law_426 : decode cL_law 426 = .ok (.iaload, 1) := by decide +kernel
theorem dL_law_427 : decode cL_law 427 = .ok (.invokevirtual 66, 3) := by decide +kernel
theorem dL_law_430 : decode cL_law 430 = .ok (.istore 6, 2) := by decide +kernel
theorem dL_law_432 : decode cL_law 432 = .ok (.aload_n 2, 1) := by decide +kernel
theorem dL_law_433 : decode cL_law 433 = .ok (.invokevirtual 67, 3) := by decide +kernel
theorem dL_law_436 : decode cL_law 436 = .ok (.iload 5, 2) := by decide +kernel
theorem dL_law_438 : decode cL_law 438 = .ok (.if_icmp .eq 5, 3) := by decide +kernel
theorem dL_law_441 : decode cL_law 441 = .ok (.iconst 0, 1) := by decide +kernel
theorem dL_law_442 : decode cL_law 442 = .ok (.ireturn, 1) := by decide +kernel
theorem dL_law_443 : decode cL_law 443 = .ok (.iload 5, 2) := by decide +kernel
theorem dL_law_445 : decode cL_law 445 = .ok (.ifCond .ne 15, 3) := by decide +kernel
theorem dL_law_448 : decode cL_law 448 = .ok (.aload_n 3, 1) := by decide +kernel
theorem dL_law_449 : decode cL_law 449 = .ok (.iconst 0, 1) := by decide +kernel
theorem dL_law_450 : decode cL_law 450 = .ok (.laload, 1) := by decide +kernel
theorem dL_law_451 : decode cL_law 451 = .ok (.iload 6, 2) := by decide +kernel
theorem dL_law_453 : decode cL_law 453 = .ok (.i2l, 1) := by decide +kernel
theorem dL_law_454 : decode cL_law 454 = .ok (.lcmp, 1) := by decide +kernel
theorem dL_law_455 : decode cL_law 455 = .ok (.ifCond .eq 5, 3) := by decide +kernel
theorem dL_law_458 : decode cL_law 458 = .ok (.iconst 0, 1) := by decide +kernel
theorem dL_law_459 : decode cL_law 459 = .ok (.ireturn, 1) := by decide +kernel
theorem dL_law_460 : decode cL_law 460 = .ok (.goto 578, 3) := by decide +kernel
theorem dL_law_463 : decode cL_law 463 = .ok (.aload_n 1, 1) := by decide +kernel
theorem dL_law_464 : decode cL_law 464 = .ok (.aload_n 0, 1) := by decide +kernel
theorem dL_law_465 : decode cL_law 465 = .ok (.iload 4, 2) := by decide +kernel
theorem dL_law_467 : decode cL_law 467 = .ok (.iconst 1, 1) := by decide +kernel
theorem dL_law_468 : decode cL_law 468 = .ok (.iadd, 1) := by decide +kernel
theorem dL_law_469 : decode cL_law 469 = .ok (.iaload, 1) := by decide +kernel
theorem dL_law_470 : decode cL_law 470 = .ok (.aload_n 0, 1) := by decide +kernel
theorem dL_law_471 : decode cL_law 471 = .ok (.iload 4, 2) := by decide +kernel
theorem dL_law_473 : decode cL_law 473 = .ok (.iconst 2, 1) := by decide +kernel
theorem dL_law_474 : decode cL_law 474 = .ok (.iadd, 1) := by decide +kernel
theorem dL_law_475 : decode cL_law 475 = .ok (.iaload, 1) := by decide +kernel
theorem dL_law_476 : decode cL_law 476 = .ok (.invokevirtual 70, 3) := by decide +kernel
theorem dL_law_479 : decode cL_law 479 = .ok (.aload_n 2, 1) := by decide +kernel
theorem dL_law_480 : decode cL_law 480 = .ok (.aload_n 0, 1) := by decide +kernel
theorem dL_law_481 : decode cL_law 481 = .ok (.iload 4, 2) := by decide +kernel
theorem dL_law_483 : decode cL_law 483 = .ok (.iconst 1, 1) := by decide +kernel
theorem dL_law_484 : decode cL_law 484 = .ok (.iadd, 1) := by decide +kernel
theorem dL_law_485 : decode cL_law 485 = .ok (.iaload, 1) := by decide +kernel
theorem dL_law_486 : decode cL_law 486 = .ok (.aload_n 0, 1) := by decide +kernel
theorem dL_law_487 : decode cL_law 487 = .ok (.iload 4, 2) := by decide +kernel
theorem dL_law_489 : decode cL_law 489 = .ok (.iconst 2, 1) := by decide +kernel
theorem dL_law_490 : decode cL_law 490 = .ok (.iadd, 1) := by decide +kernel
theorem dL_law_491 : decode cL_law 491 = .ok (.iaload, 1) := by decide +kernel
theorem dL_law_492 : decode cL_law 492 = .ok (.invokevirtual 74, 3) := by decide +kernel
theorem dL_law_495 : decode cL_law 495 = .ok (.if_icmp .eq 543, 3) := by decide +kernel
theorem dL_law_498 : decode cL_law 498 = .ok (.iconst 0, 1) := by decide +kernel
theorem dL_law_499 : decode cL_law 499 = .ok (.ireturn, 1) := by decide +kernel
theorem dL_law_500 : decode cL_law 500 = .ok (.aload_n 1, 1) := by decide +kernel
theorem dL_law_501 : decode cL_law 501 = .ok (.aload_n 0, 1) := by decide +kernel
theorem dL_law_502 : decode cL_law 502 = .ok (.iload 4, 2) := by decide +kernel
theorem dL_law_504 : decode cL_law 504 = .ok (.iconst 1, 1) := by decide +kernel
theorem dL_law_505 : decode cL_law 505 = .ok (.iadd, 1) := by decide +kernel
theorem dL_law_506 : decode cL_law 506 = .ok (.iaload, 1) := by decide +kernel
theorem dL_law_507 : decode cL_law 507 = .ok (.aload_n 0, 1) := by decide +kernel
theorem dL_law_508 : decode cL_law 508 = .ok (.iload 4, 2) := by decide +kernel
theorem dL_law_510 : decode cL_law 510 = .ok (.iconst 2, 1) := by decide +kernel
theorem dL_law_511 : decode cL_law 511 = .ok (.iadd, 1) := by decide +kernel
theorem dL_law_512 : decode cL_law 512 = .ok (.iaload, 1) := by decide +kernel
theorem dL_law_513 : decode cL_law 513 = .ok (.aload_n 0, 1) := by decide +kernel
theorem dL_law_514 : decode cL_law 514 = .ok (.iload 4, 2) := by decide +kernel
theorem dL_law_516 : decode cL_law 516 = .ok (.iconst 3, 1) := by decide +kernel
theorem dL_law_517 : decode cL_law 517 = .ok (.iadd, 1) := by decide +kernel
theorem dL_law_518 : decode cL_law 518 = .ok (.iaload, 1) := by decide +kernel
theorem dL_law_519 : decode cL_law 519 = .ok (.aload_n 3, 1) := by decide +kernel
theorem dL_law_520 : decode cL_law 520 = .ok (.invokestatic 75, 3) := by decide +kernel
theorem dL_law_523 : decode cL_law 523 = .ok (.istore 5, 2) := by decide +kernel
theorem dL_law_525 : decode cL_law 525 = .ok (.aload_n 2, 1) := by decide +kernel
theorem dL_law_526 : decode cL_law 526 = .ok (.aload_n 0, 1) := by decide +kernel
theorem dL_law_527 : decode cL_law 527 = .ok (.iload 4, 2) := by decide +kernel
theorem dL_law_529 : decode cL_law 529 = .ok (.iconst 1, 1) := by decide +kernel
theorem dL_law_530 : decode cL_law 530 = .ok (.iadd, 1) := by decide +kernel
theorem dL_law_531 : decode cL_law 531 = .ok (.iaload, 1) := by decide +kernel
theorem dL_law_532 : decode cL_law 532 = .ok (.aload_n 0, 1) := by decide +kernel
theorem dL_law_533 : decode cL_law 533 = .ok (.iload 4, 2) := by decide +kernel
theorem dL_law_535 : decode cL_law 535 = .ok (.iconst 2, 1) := by decide +kernel
theorem dL_law_536 : decode cL_law 536 = .ok (.iadd, 1) := by decide +kernel
theorem dL_law_537 : decode cL_law 537 = .ok (.iaload, 1) := by decide +kernel
theorem dL_law_538 : decode cL_law 538 = .ok (.aload_n 0, 1) := by decide +kernel
theorem dL_law_539 : decode cL_law 539 = .ok (.iload 4, 2) := by decide +kernel
theorem dL_law_541 : decode cL_law 541 = .ok (.iconst 3, 1) := by decide +kernel
theorem dL_law_542 : decode cL_law 542 = .ok (.iadd, 1) := by decide +kernel
theorem dL_law_543 : decode cL_law 543 = .ok (.iaload, 1) := by decide +kernel
theorem dL_law_544 : decode cL_law 544 = .ok (.invokevirtual 77, 3) := by decide +kernel
theorem dL_law_547 : decode cL_law 547 = .ok (.istore 6, 2) := by decide +kernel
theorem dL_law_549 : decode cL_law 549 = .ok (.aload_n 2, 1) := by decide +kernel
theorem dL_law_550 : decode cL_law 550 = .ok (.invokevirtual 67, 3) := by decide +kernel
theorem dL_law_553 : decode cL_law 553 = .ok (.iload 5, 2) := by decide +kernel
theorem dL_law_555 : decode cL_law 555 = .ok (.if_icmp .eq 5, 3) := by decide +kernel
theorem dL_law_558 : decode cL_law 558 = .ok (.iconst 0, 1) := by decide +kernel
theorem dL_law_559 : decode cL_law 559 = .ok (.ireturn, 1) := by decide +kernel
theorem dL_law_560 : decode cL_law 560 = .ok (.iload 5, 2) := by decide +kernel
theorem dL_law_562 : decode cL_law 562 = .ok (.ifCond .ne 15, 3) := by decide +kernel
theorem dL_law_565 : decode cL_law 565 = .ok (.aload_n 3, 1) := by decide +kernel
theorem dL_law_566 : decode cL_law 566 = .ok (.iconst 0, 1) := by decide +kernel
theorem dL_law_567 : decode cL_law 567 = .ok (.laload, 1) := by decide +kernel
theorem dL_law_568 : decode cL_law 568 = .ok (.iload 6, 2) := by decide +kernel
theorem dL_law_570 : decode cL_law 570 = .ok (.i2l, 1) := by decide +kernel
theorem dL_law_571 : decode cL_law 571 = .ok (.lcmp, 1) := by decide +kernel
theorem dL_law_572 : decode cL_law 572 = .ok (.ifCond .eq 5, 3) := by decide +kernel
theorem dL_law_575 : decode cL_law 575 = .ok (.iconst 0, 1) := by decide +kernel
theorem dL_law_576 : decode cL_law 576 = .ok (.ireturn, 1) := by decide +kernel
theorem dL_law_577 : decode cL_law 577 = .ok (.goto 461, 3) := by decide +kernel
theorem dL_law_580 : decode cL_law 580 = .ok (.aload_n 1, 1) := by decide +kernel
theorem dL_law_581 : decode cL_law 581 = .ok (.aload_n 0, 1) := by decide +kernel
theorem dL_law_582 : decode cL_law 582 = .ok (.iload 4, 2) := by decide +kernel
theorem dL_law_584 : decode cL_law 584 = .ok (.iconst 1, 1) := by decide +kernel
theorem dL_law_585 : decode cL_law 585 = .ok (.iadd, 1) := by decide +kernel
theorem dL_law_586 : decode cL_law 586 = .ok (.iaload, 1) := by decide +kernel
theorem dL_law_587 : decode cL_law 587 = .ok (.aload_n 0, 1) := by decide +kernel
theorem dL_law_588 : decode cL_law 588 = .ok (.iload 4, 2) := by decide +kernel
theorem dL_law_590 : decode cL_law 590 = .ok (.iconst 2, 1) := by decide +kernel
theorem dL_law_591 : decode cL_law 591 = .ok (.iadd, 1) := by decide +kernel
theorem dL_law_592 : decode cL_law 592 = .ok (.iaload, 1) := by decide +kernel
theorem dL_law_593 : decode cL_law 593 = .ok (.aload_n 0, 1) := by decide +kernel
theorem dL_law_594 : decode cL_law 594 = .ok (.iload 4, 2) := by decide +kernel
theorem dL_law_596 : decode cL_law 596 = .ok (.iconst 3, 1) := by decide +kernel
theorem dL_law_597 : decode cL_law 597 = .ok (.iadd, 1) := by decide +kernel
theorem dL_law_598 : decode cL_law 598 = .ok (.iaload, 1) := by decide +kernel
theorem dL_law_599 : decode cL_law 599 = .ok (.invokevirtual 78, 3) := by decide +kernel
theorem dL_law_602 : decode cL_law 602 = .ok (.aload_n 2, 1) := by decide +kernel
theorem dL_law_603 : decode cL_law 603 = .ok (.aload_n 0, 1) := by decide +kernel
theorem dL_law_604 : decode cL_law 604 = .ok (.iload 4, 2) := by decide +kernel
theorem dL_law_606 : decode cL_law 606 = .ok (.iconst 1, 1) := by decide +kernel
theorem dL_law_607 : decode cL_law 607 = .ok (.iadd, 1) := by decide +kernel
theorem dL_law_608 : decode cL_law 608 = .ok (.iaload, 1) := by decide +kernel
theorem dL_law_609 : decode cL_law 609 = .ok (.aload_n 0, 1) := by decide +kernel
theorem dL_law_610 : decode cL_law 610 = .ok (.iload 4, 2) := by decide +kernel
theorem dL_law_612 : decode cL_law 612 = .ok (.iconst 2, 1) := by decide +kernel
theorem dL_law_613 : decode cL_law 613 = .ok (.iadd, 1) := by decide +kernel
theorem dL_law_614 : decode cL_law 614 = .ok (.iaload, 1) := by decide +kernel
theorem dL_law_615 : decode cL_law 615 = .ok (.aload_n 0, 1) := by decide +kernel
theorem dL_law_616 : decode cL_law 616 = .ok (.iload 4, 2) := by decide +kernel
theorem dL_law_618 : decode cL_law 618 = .ok (.iconst 3, 1) := by decide +kernel
theorem dL_law_619 : decode cL_law 619 = .ok (.iadd, 1) := by decide +kernel
theorem dL_law_620 : decode cL_law 620 = .ok (.iaload, 1) := by decide +kernel
theorem dL_law_621 : decode cL_law 621 = .ok (.invokevirtual 81, 3) := by decide +kernel
theorem dL_law_624 : decode cL_law 624 = .ok (.if_icmp .eq 414, 3) := by decide +kernel
theorem dL_law_627 : decode cL_law 627 = .ok (.iconst 0, 1) := by decide +kernel
theorem dL_law_628 : decode cL_law 628 = .ok (.ireturn, 1) := by decide +kernel
theorem dL_law_629 : decode cL_law 629 = .ok (.aload_n 1, 1) := by decide +kernel
theorem dL_law_630 : decode cL_law 630 = .ok (.aload_n 0, 1) := by decide +kernel
theorem dL_law_631 : decode cL_law 631 = .ok (.iload 4, 2) := by decide +kernel
theorem dL_law_633 : decode cL_law 633 = .ok (.iconst 1, 1) := by decide +kernel
theorem dL_law_634 : decode cL_law 634 = .ok (.iadd, 1) := by decide +kernel
theorem dL_law_635 : decode cL_law 635 = .ok (.iaload, 1) := by decide +kernel
theorem dL_law_636 : decode cL_law 636 = .ok (.aload_n 0, 1) := by decide +kernel
theorem dL_law_637 : decode cL_law 637 = .ok (.iload 4, 2) := by decide +kernel
theorem dL_law_639 : decode cL_law 639 = .ok (.iconst 2, 1) := by decide +kernel
theorem dL_law_640 : decode cL_law 640 = .ok (.iadd, 1) := by decide +kernel
theorem dL_law_641 : decode cL_law 641 = .ok (.iaload, 1) := by decide +kernel
theorem dL_law_642 : decode cL_law 642 = .ok (.invokevirtual 82, 3) := by decide +kernel
theorem dL_law_645 : decode cL_law 645 = .ok (.aload_n 2, 1) := by decide +kernel
theorem dL_law_646 : decode cL_law 646 = .ok (.aload_n 0, 1) := by decide +kernel
theorem dL_law_647 : decode cL_law 647 = .ok (.iload 4, 2) := by decide +kernel
theorem dL_law_649 : decode cL_law 649 = .ok (.iconst 1, 1) := by decide +kernel
theorem dL_law_650 : decode cL_law 650 = .ok (.iadd, 1) := by decide +kernel
theorem dL_law_651 : decode cL_law 651 = .ok (.iaload, 1) := by decide +kernel
theorem dL_law_652 : decode cL_law 652 = .ok (.aload_n 0, 1) := by decide +kernel
theorem dL_law_653 : decode cL_law 653 = .ok (.iload 4, 2) := by decide +kernel
theorem dL_law_655 : decode cL_law 655 = .ok (.iconst 2, 1) := by decide +kernel
theorem dL_law_656 : decode cL_law 656 = .ok (.iadd, 1) := by decide +kernel
theorem dL_law_657 : decode cL_law 657 = .ok (.iaload, 1) := by decide +kernel
theorem dL_law_658 : decode cL_law 658 = .ok (.invokevirtual 85, 3) := by decide +kernel
theorem dL_law_661 : decode cL_law 661 = .ok (.if_icmp .eq 377, 3) := by decide +kernel
theorem dL_law_664 : decode cL_law 664 = .ok (.iconst 0, 1) := by decide +kernel
theorem dL_law_665 : decode cL_law 665 = .ok (.ireturn, 1) := by decide +kernel
theorem dL_law_666 : decode cL_law 666 = .ok (.aload_n 1, 1) := by decide +kernel
theorem dL_law_667 : decode cL_law 667 = .ok (.aload_n 0, 1) := by decide +kernel
theorem dL_law_668 : decode cL_law 668 = .ok (.iload 4, 2) := by decide +kernel
theorem dL_law_670 : decode cL_law 670 = .ok (.iconst 1, 1) := by decide +kernel
theorem dL_law_671 : decode cL_law 671 = .ok (.iadd, 1) := by decide +kernel
theorem dL_law_672 : decode cL_law 672 = .ok (.iaload, 1) := by decide +kernel
theorem dL_law_673 : decode cL_law 673 = .ok (.aload_n 0, 1) := by decide +kernel
theorem dL_law_674 : decode cL_law 674 = .ok (.iload 4, 2) := by decide +kernel
theorem dL_law_676 : decode cL_law 676 = .ok (.iconst 2, 1) := by decide +kernel
theorem dL_law_677 : decode cL_law 677 = .ok (.iadd, 1) := by decide +kernel
theorem dL_law_678 : decode cL_law 678 = .ok (.iaload, 1) := by decide +kernel
theorem dL_law_679 : decode cL_law 679 = .ok (.invokevirtual 86, 3) := by decide +kernel
theorem dL_law_682 : decode cL_law 682 = .ok (.aload_n 2, 1) := by decide +kernel
theorem dL_law_683 : decode cL_law 683 = .ok (.aload_n 0, 1) := by decide +kernel
theorem dL_law_684 : decode cL_law 684 = .ok (.iload 4, 2) := by decide +kernel
theorem dL_law_686 : decode cL_law 686 = .ok (.iconst 1, 1) := by decide +kernel
theorem dL_law_687 : decode cL_law 687 = .ok (.iadd, 1) := by decide +kernel
theorem dL_law_688 : decode cL_law 688 = .ok (.iaload, 1) := by decide +kernel
theorem dL_law_689 : decode cL_law 689 = .ok (.aload_n 0, 1) := by decide +kernel
theorem dL_law_690 : decode cL_law 690 = .ok (.iload 4, 2) := by decide +kernel
theorem dL_law_692 : decode cL_law 692 = .ok (.iconst 2, 1) := by decide +kernel
theorem dL_law_693 : decode cL_law 693 = .ok (.iadd, 1) := by decide +kernel
theorem dL_law_694 : decode cL_law 694 = .ok (.iaload, 1) := by decide +kernel
theorem dL_law_695 : decode cL_law 695 = .ok (.invokevirtual 89, 3) := by decide +kernel
theorem dL_law_698 : decode cL_law 698 = .ok (.if_icmp .eq 340, 3) := by decide +kernel
theorem dL_law_701 : decode cL_law 701 = .ok (.iconst 0, 1) := by decide +kernel
theorem dL_law_702 : decode cL_law 702 = .ok (.ireturn, 1) := by decide +kernel
theorem dL_law_703 : decode cL_law 703 = .ok (.aload_n 1, 1) := by decide +kernel
theorem dL_law_704 : decode cL_law 704 = .ok (.aload_n 0, 1) := by decide +kernel
theorem dL_law_705 : decode cL_law 705 = .ok (.iload 4, 2) := by decide +kernel
theorem dL_law_707 : decode cL_law 707 = .ok (.iconst 1, 1) := by decide +kernel
theorem dL_law_708 : decode cL_law 708 = .ok (.iadd, 1) := by decide +kernel
theorem dL_law_709 : decode cL_law 709 = .ok (.iaload, 1) := by decide +kernel
theorem dL_law_710 : decode cL_law 710 = .ok (.aload_n 0, 1) := by decide +kernel
theorem dL_law_711 : decode cL_law 711 = .ok (.iload 4, 2) := by decide +kernel
theorem dL_law_713 : decode cL_law 713 = .ok (.iconst 2, 1) := by decide +kernel
theorem dL_law_714 : decode cL_law 714 = .ok (.iadd, 1) := by decide +kernel
theorem dL_law_715 : decode cL_law 715 = .ok (.iaload, 1) := by decide +kernel
theorem dL_law_716 : decode cL_law 716 = .ok (.aload_n 3, 1) := by decide +kernel
theorem dL_law_717 : decode cL_law 717 = .ok (.invokestatic 90, 3) := by decide +kernel
theorem dL_law_720 : decode cL_law 720 = .ok (.istore 5, 2) := by decide +kernel
theorem dL_law_722 : decode cL_law 722 = .ok (.aload_n 2, 1) := by decide +kernel
theorem dL_law_723 : decode cL_law 723 = .ok (.aload_n 0, 1) := by decide +kernel
theorem dL_law_724 : decode cL_law 724 = .ok (.iload 4, 2) := by decide +kernel
theorem dL_law_726 : decode cL_law 726 = .ok (.iconst 1, 1) := by decide +kernel
theorem dL_law_727 : decode cL_law 727 = .ok (.iadd, 1) := by decide +kernel
theorem dL_law_728 : decode cL_law 728 = .ok (.iaload, 1) := by decide +kernel
theorem dL_law_729 : decode cL_law 729 = .ok (.aload_n 0, 1) := by decide +kernel
theorem dL_law_730 : decode cL_law 730 = .ok (.iload 4, 2) := by decide +kernel
theorem dL_law_732 : decode cL_law 732 = .ok (.iconst 2, 1) := by decide +kernel
theorem dL_law_733 : decode cL_law 733 = .ok (.iadd, 1) := by decide +kernel
theorem dL_law_734 : decode cL_law 734 = .ok (.iaload, 1) := by decide +kernel
theorem dL_law_735 : decode cL_law 735 = .ok (.invokevirtual 93, 3) := by decide +kernel
theorem dL_law_738 : decode cL_law 738 = .ok (.lstore 6, 2) := by decide +kernel
theorem dL_law_740 : decode cL_law 740 = .ok (.aload_n 2, 1) := by decide +kernel
theorem dL_law_741 : decode cL_law 741 = .ok (.invokevirtual 67, 3) := by decide +kernel
theorem dL_law_744 : decode cL_law 744 = .ok (.iload 5, 2) := by decide +kernel
theorem dL_law_746 : decode cL_law 746 = .ok (.if_icmp .eq 5, 3) := by decide +kernel
theorem dL_law_749 : decode cL_law 749 = .ok (.iconst 0, 1) := by decide +kernel
theorem dL_law_750 : decode cL_law 750 = .ok (.ireturn, 1) := by decide +kernel
theorem dL_law_751 : decode cL_law 751 = .ok (.iload 5, 2) := by decide +kernel
theorem dL_law_753 : decode cL_law 753 = .ok (.ifCond .ne 14, 3) := by decide +kernel
theorem dL_law_756 : decode cL_law 756 = .ok (.aload_n 3, 1) := by decide +kernel
theorem dL_law_757 : decode cL_law 757 = .ok (.iconst 0, 1) := by decide +kernel
theorem dL_law_758 : decode cL_law 758 = .ok (.laload, 1) := by decide +kernel
theorem dL_law_759 : decode cL_law 759 = .ok (.lload 6, 2) := by decide +kernel
theorem dL_law_761 : decode cL_law 761 = .ok (.lcmp, 1) := by decide +kernel
theorem dL_law_762 : decode cL_law 762 = .ok (.ifCond .eq 5, 3) := by decide +kernel
theorem dL_law_765 : decode cL_law 765 = .ok (.iconst 0, 1) := by decide +kernel
theorem dL_law_766 : decode cL_law 766 = .ok (.ireturn, 1) := by decide +kernel
theorem dL_law_767 : decode cL_law 767 = .ok (.goto 271, 3) := by decide +kernel
theorem dL_law_770 : decode cL_law 770 = .ok (.aload_n 1, 1) := by decide +kernel
theorem dL_law_771 : decode cL_law 771 = .ok (.aload_n 0, 1) := by decide +kernel
theorem dL_law_772 : decode cL_law 772 = .ok (.iload 4, 2) := by decide +kernel
theorem dL_law_774 : decode cL_law 774 = .ok (.iconst 1, 1) := by decide +kernel
theorem dL_law_775 : decode cL_law 775 = .ok (.iadd, 1) := by decide +kernel
theorem dL_law_776 : decode cL_law 776 = .ok (.iaload, 1) := by decide +kernel
theorem dL_law_777 : decode cL_law 777 = .ok (.aload_n 0, 1) := by decide +kernel
theorem dL_law_778 : decode cL_law 778 = .ok (.iload 4, 2) := by decide +kernel
theorem dL_law_780 : decode cL_law 780 = .ok (.iconst 2, 1) := by decide +kernel
theorem dL_law_781 : decode cL_law 781 = .ok (.iadd, 1) := by decide +kernel
theorem dL_law_782 : decode cL_law 782 = .ok (.iaload, 1) := by decide +kernel
theorem dL_law_783 : decode cL_law 783 = .ok (.aload_n 3, 1) := by decide +kernel
theorem dL_law_784 : decode cL_law 784 = .ok (.invokestatic 94, 3) := by decide +kernel
theorem dL_law_787 : decode cL_law 787 = .ok (.istore 5, 2) := by decide +kernel
theorem dL_law_789 : decode cL_law 789 = .ok (.aload_n 2, 1) := by decide +kernel
theorem dL_law_790 : decode cL_law 790 = .ok (.aload_n 0, 1) := by decide +kernel
theorem dL_law_791 : decode cL_law 791 = .ok (.iload 4, 2) := by decide +kernel
theorem dL_law_793 : decode cL_law 793 = .ok (.iconst 1, 1) := by decide +kernel
theorem dL_law_794 : decode cL_law 794 = .ok (.iadd, 1) := by decide +kernel
theorem dL_law_795 : decode cL_law 795 = .ok (.iaload, 1) := by decide +kernel
theorem dL_law_796 : decode cL_law 796 = .ok (.aload_n 0, 1) := by decide +kernel
theorem dL_law_797 : decode cL_law 797 = .ok (.iload 4, 2) := by decide +kernel
theorem dL_law_799 : decode cL_law 799 = .ok (.iconst 2, 1) := by decide +kernel
theorem dL_law_800 : decode cL_law 800 = .ok (.iadd, 1) := by decide +kernel
theorem dL_law_801 : decode cL_law 801 = .ok (.iaload, 1) := by decide +kernel
theorem dL_law_802 : decode cL_law 802 = .ok (.invokevirtual 96, 3) := by decide +kernel
theorem dL_law_805 : decode cL_law 805 = .ok (.lstore 6, 2) := by decide +kernel
theorem dL_law_807 : decode cL_law 807 = .ok (.aload_n 2, 1) := by decide +kernel
theorem dL_law_808 : decode cL_law 808 = .ok (.invokevirtual 67, 3) := by decide +kernel
theorem dL_law_811 : decode cL_law 811 = .ok (.iload 5, 2) := by decide +kernel
theorem dL_law_813 : decode cL_law 813 = .ok (.if_icmp .eq 5, 3) := by decide +kernel
theorem dL_law_816 : decode cL_law 816 = .ok (.iconst 0, 1) := by decide +kernel
theorem dL_law_817 : decode cL_law 817 = .ok (.ireturn, 1) := by decide +kernel
theorem dL_law_818 : decode cL_law 818 = .ok (.iload 5, 2) := by decide +kernel
theorem dL_law_820 : decode cL_law 820 = .ok (.ifCond .ne 14, 3) := by decide +kernel
theorem dL_law_823 : decode cL_law 823 = .ok (.aload_n 3, 1) := by decide +kernel
theorem dL_law_824 : decode cL_law 824 = .ok (.iconst 0, 1) := by decide +kernel
theorem dL_law_825 : decode cL_law 825 = .ok (.laload, 1) := by decide +kernel
theorem dL_law_826 : decode cL_law 826 = .ok (.lload 6, 2) := by decide +kernel
theorem dL_law_828 : decode cL_law 828 = .ok (.lcmp, 1) := by decide +kernel
theorem dL_law_829 : decode cL_law 829 = .ok (.ifCond .eq 5, 3) := by decide +kernel
theorem dL_law_832 : decode cL_law 832 = .ok (.iconst 0, 1) := by decide +kernel
theorem dL_law_833 : decode cL_law 833 = .ok (.ireturn, 1) := by decide +kernel
theorem dL_law_834 : decode cL_law 834 = .ok (.goto 204, 3) := by decide +kernel
theorem dL_law_837 : decode cL_law 837 = .ok (.aload_n 1, 1) := by decide +kernel
theorem dL_law_838 : decode cL_law 838 = .ok (.aload_n 0, 1) := by decide +kernel
theorem dL_law_839 : decode cL_law 839 = .ok (.iload 4, 2) := by decide +kernel
theorem dL_law_841 : decode cL_law 841 = .ok (.iconst 1, 1) := by decide +kernel
theorem dL_law_842 : decode cL_law 842 = .ok (.iadd, 1) := by decide +kernel
theorem dL_law_843 : decode cL_law 843 = .ok (.iaload, 1) := by decide +kernel
theorem dL_law_844 : decode cL_law 844 = .ok (.aload_n 0, 1) := by decide +kernel
theorem dL_law_845 : decode cL_law 845 = .ok (.iload 4, 2) := by decide +kernel
theorem dL_law_847 : decode cL_law 847 = .ok (.iconst 2, 1) := by decide +kernel
theorem dL_law_848 : decode cL_law 848 = .ok (.iadd, 1) := by decide +kernel
theorem dL_law_849 : decode cL_law 849 = .ok (.iaload, 1) := by decide +kernel
theorem dL_law_850 : decode cL_law 850 = .ok (.aload_n 0, 1) := by decide +kernel
theorem dL_law_851 : decode cL_law 851 = .ok (.iload 4, 2) := by decide +kernel
theorem dL_law_853 : decode cL_law 853 = .ok (.iconst 3, 1) := by decide +kernel
theorem dL_law_854 : decode cL_law 854 = .ok (.iadd, 1) := by decide +kernel
theorem dL_law_855 : decode cL_law 855 = .ok (.iaload, 1) := by decide +kernel
theorem dL_law_856 : decode cL_law 856 = .ok (.aload_n 0, 1) := by decide +kernel
theorem dL_law_857 : decode cL_law 857 = .ok (.iload 4, 2) := by decide +kernel
theorem dL_law_859 : decode cL_law 859 = .ok (.iconst 4, 1) := by decide +kernel
theorem dL_law_860 : decode cL_law 860 = .ok (.iadd, 1) := by decide +kernel
theorem dL_law_861 : decode cL_law 861 = .ok (.iaload, 1) := by decide +kernel
theorem dL_law_862 : decode cL_law 862 = .ok (.ifCond .eq 7, 3) := by decide +kernel
theorem dL_law_865 : decode cL_law 865 = .ok (.iconst 1, 1) := by decide +kernel
theorem dL_law_866 : decode cL_law 866 = .ok (.goto 4, 3) := by decide +kernel
theorem dL_law_869 : decode cL_law 869 = .ok (.iconst 0, 1) := by decide +kernel
theorem dL_law_870 : decode cL_law 870 = .ok (.invokevirtual 97, 3) := by decide +kernel
theorem dL_law_873 : decode cL_law 873 = .ok (.aload_n 2, 1) := by decide +kernel
theorem dL_law_874 : decode cL_law 874 = .ok (.aload_n 0, 1) := by decide +kernel
theorem dL_law_875 : decode cL_law 875 = .ok (.iload 4, 2) := by decide +kernel
theorem dL_law_877 : decode cL_law 877 = .ok (.iconst 1, 1) := by decide +kernel
theorem dL_law_878 : decode cL_law 878 = .ok (.iadd, 1) := by decide +kernel
theorem dL_law_879 : decode cL_law 879 = .ok (.iaload, 1) := by decide +kernel
theorem dL_law_880 : decode cL_law 880 = .ok (.aload_n 0, 1) := by decide +kernel
theorem dL_law_881 : decode cL_law 881 = .ok (.iload 4, 2) := by decide +kernel
theorem dL_law_883 : decode cL_law 883 = .ok (.iconst 2, 1) := by decide +kernel
theorem dL_law_884 : decode cL_law 884 = .ok (.iadd, 1) := by decide +kernel
theorem dL_law_885 : decode cL_law 885 = .ok (.iaload, 1) := by decide +kernel
theorem dL_law_886 : decode cL_law 886 = .ok (.aload_n 0, 1) := by decide +kernel
theorem dL_law_887 : decode cL_law 887 = .ok (.iload 4, 2) := by decide +kernel
theorem dL_law_889 : decode cL_law 889 = .ok (.iconst 3, 1) := by decide +kernel
theorem dL_law_890 : decode cL_law 890 = .ok (.iadd, 1) := by decide +kernel
theorem dL_law_891 : decode cL_law 891 = .ok (.iaload, 1) := by decide +kernel
theorem dL_law_892 : decode cL_law 892 = .ok (.aload_n 0, 1) := by decide +kernel
theorem dL_law_893 : decode cL_law 893 = .ok (.iload 4, 2) := by decide +kernel
theorem dL_law_895 : decode cL_law 895 = .ok (.iconst 4, 1) := by decide +kernel
theorem dL_law_896 : decode cL_law 896 = .ok (.iadd, 1) := by decide +kernel
theorem dL_law_897 : decode cL_law 897 = .ok (.iaload, 1) := by decide +kernel
theorem dL_law_898 : decode cL_law 898 = .ok (.ifCond .eq 7, 3) := by decide +kernel
theorem dL_law_901 : decode cL_law 901 = .ok (.iconst 1, 1) := by decide +kernel
theorem dL_law_902 : decode cL_law 902 = .ok (.goto 4, 3) := by decide +kernel
theorem dL_law_905 : decode cL_law 905 = .ok (.iconst 0, 1) := by decide +kernel
theorem dL_law_906 : decode cL_law 906 = .ok (.invokevirtual 101, 3) := by decide +kernel
theorem dL_law_909 : decode cL_law 909 = .ok (.if_icmp .eq 129, 3) := by decide +kernel
theorem dL_law_912 : decode cL_law 912 = .ok (.iconst 0, 1) := by decide +kernel
theorem dL_law_913 : decode cL_law 913 = .ok (.ireturn, 1) := by decide +kernel
theorem dL_law_914 : decode cL_law 914 = .ok (.aload_n 1, 1) := by decide +kernel
theorem dL_law_915 : decode cL_law 915 = .ok (.aload_n 0, 1) := by decide +kernel
theorem dL_law_916 : decode cL_law 916 = .ok (.iload 4, 2) := by decide +kernel
theorem dL_law_918 : decode cL_law 918 = .ok (.iconst 1, 1) := by decide +kernel
theorem dL_law_919 : decode cL_law 919 = .ok (.iadd, 1) := by decide +kernel
theorem dL_law_920 : decode cL_law 920 = .ok (.iaload, 1) := by decide +kernel
theorem dL_law_921 : decode cL_law 921 = .ok (.aload_n 0, 1) := by decide +kernel
theorem dL_law_922 : decode cL_law 922 = .ok (.iload 4, 2) := by decide +kernel
theorem dL_law_924 : decode cL_law 924 = .ok (.iconst 2, 1) := by decide +kernel
theorem dL_law_925 : decode cL_law 925 = .ok (.iadd, 1) := by decide +kernel
theorem dL_law_926 : decode cL_law 926 = .ok (.iaload, 1) := by decide +kernel
theorem dL_law_927 : decode cL_law 927 = .ok (.aload_n 0, 1) := by decide +kernel
theorem dL_law_928 : decode cL_law 928 = .ok (.iload 4, 2) := by decide +kernel
theorem dL_law_930 : decode cL_law 930 = .ok (.iconst 3, 1) := by decide +kernel
theorem dL_law_931 : decode cL_law 931 = .ok (.iadd, 1) := by decide +kernel
theorem dL_law_932 : decode cL_law 932 = .ok (.iaload, 1) := by decide +kernel
theorem dL_law_933 : decode cL_law 933 = .ok (.invokevirtual 102, 3) := by decide +kernel
theorem dL_law_936 : decode cL_law 936 = .ok (.aload_n 2, 1) := by decide +kernel
theorem dL_law_937 : decode cL_law 937 = .ok (.aload_n 0, 1) := by decide +kernel
theorem dL_law_938 : decode cL_law 938 = .ok (.iload 4, 2) := by decide +kernel
theorem dL_law_940 : decode cL_law 940 = .ok (.iconst 1, 1) := by decide +kernel
theorem dL_law_941 : decode cL_law 941 = .ok (.iadd, 1) := by decide +kernel
theorem dL_law_942 : decode cL_law 942 = .ok (.iaload, 1) := by decide +kernel
theorem dL_law_943 : decode cL_law 943 = .ok (.aload_n 0, 1) := by decide +kernel
theorem dL_law_944 : decode cL_law 944 = .ok (.iload 4, 2) := by decide +kernel
theorem dL_law_946 : decode cL_law 946 = .ok (.iconst 2, 1) := by decide +kernel
theorem dL_law_947 : decode cL_law 947 = .ok (.iadd, 1) := by decide +kernel
theorem dL_law_948 : decode cL_law 948 = .ok (.iaload, 1) := by decide +kernel
theorem dL_law_949 : decode cL_law 949 = .ok (.aload_n 0, 1) := by decide +kernel
theorem dL_law_950 : decode cL_law 950 = .ok (.iload 4, 2) := by decide +kernel
theorem dL_law_952 : decode cL_law 952 = .ok (.iconst 3, 1) := by decide +kernel
theorem dL_law_953 : decode cL_law 953 = .ok (.iadd, 1) := by decide +kernel
theorem dL_law_954 : decode cL_law 954 = .ok (.iaload, 1) := by decide +kernel
theorem dL_law_955 : decode cL_law 955 = .ok (.invokevirtual 105, 3) := by decide +kernel
theorem dL_law_958 : decode cL_law 958 = .ok (.if_icmp .eq 80, 3) := by decide +kernel
theorem dL_law_961 : decode cL_law 961 = .ok (.iconst 0, 1) := by decide +kernel
theorem dL_law_962 : decode cL_law 962 = .ok (.ireturn, 1) := by decide +kernel
theorem dL_law_963 : decode cL_law 963 = .ok (.aload_n 1, 1) := by decide +kernel
theorem dL_law_964 : decode cL_law 964 = .ok (.aload_n 0, 1) := by decide +kernel
theorem dL_law_965 : decode cL_law 965 = .ok (.iload 4, 2) := by decide +kernel
theorem dL_law_967 : decode cL_law 967 = .ok (.iconst 1, 1) := by decide +kernel
theorem dL_law_968 : decode cL_law 968 = .ok (.iadd, 1) := by decide +kernel
theorem dL_law_969 : decode cL_law 969 = .ok (.iaload, 1) := by decide +kernel
theorem dL_law_970 : decode cL_law 970 = .ok (.aload_n 0, 1) := by decide +kernel
theorem dL_law_971 : decode cL_law 971 = .ok (.iload 4, 2) := by decide +kernel
theorem dL_law_973 : decode cL_law 973 = .ok (.iconst 2, 1) := by decide +kernel
theorem dL_law_974 : decode cL_law 974 = .ok (.iadd, 1) := by decide +kernel
theorem dL_law_975 : decode cL_law 975 = .ok (.iaload, 1) := by decide +kernel
theorem dL_law_976 : decode cL_law 976 = .ok (.aload_n 0, 1) := by decide +kernel
theorem dL_law_977 : decode cL_law 977 = .ok (.iload 4, 2) := by decide +kernel
theorem dL_law_979 : decode cL_law 979 = .ok (.iconst 3, 1) := by decide +kernel
theorem dL_law_980 : decode cL_law 980 = .ok (.iadd, 1) := by decide +kernel
theorem dL_law_981 : decode cL_law 981 = .ok (.iaload, 1) := by decide +kernel
theorem dL_law_982 : decode cL_law 982 = .ok (.invokevirtual 106, 3) := by decide +kernel
theorem dL_law_985 : decode cL_law 985 = .ok (.aload_n 2, 1) := by decide +kernel
theorem dL_law_986 : decode cL_law 986 = .ok (.aload_n 0, 1) := by decide +kernel
theorem dL_law_987 : decode cL_law 987 = .ok (.iload 4, 2) := by decide +kernel
theorem dL_law_989 : decode cL_law 989 = .ok (.iconst 1, 1) := by decide +kernel
theorem dL_law_990 : decode cL_law 990 = .ok (.iadd, 1) := by decide +kernel
theorem dL_law_991 : decode cL_law 991 = .ok (.iaload, 1) := by decide +kernel
theorem dL_law_992 : decode cL_law 992 = .ok (.aload_n 0, 1) := by decide +kernel
theorem dL_law_993 : decode cL_law 993 = .ok (.iload 4, 2) := by decide +kernel
theorem dL_law_995 : decode cL_law 995 = .ok (.iconst 2, 1) := by decide +kernel
theorem dL_law_996 : decode cL_law 996 = .ok (.iadd, 1) := by decide +kernel
theorem dL_law_997 : decode cL_law 997 = .ok (.iaload, 1) := by decide +kernel
theorem dL_law_998 : decode cL_law 998 = .ok (.aload_n 0, 1) := by decide +kernel
theorem dL_law_999 : decode cL_law 999 = .ok (.iload 4, 2) := by decide +kernel
theorem dL_law_1001 : decode cL_law 1001 = .ok (.iconst 3, 1) := by decide +kernel
theorem dL_law_1002 : decode cL_law 1002 = .ok (.iadd, 1) := by decide +kernel
theorem dL_law_1003 : decode cL_law 1003 = .ok (.iaload, 1) := by decide +kernel
theorem dL_law_1004 : decode cL_law 1004 = .ok (.invokevirtual 109, 3) := by decide +kernel
theorem dL_law_1007 : decode cL_law 1007 = .ok (.if_icmp .eq 31, 3) := by decide +kernel
theorem dL_law_1010 : decode cL_law 1010 = .ok (.iconst 0, 1) := by decide +kernel
theorem dL_law_1011 : decode cL_law 1011 = .ok (.ireturn, 1) := by decide +kernel
theorem dL_law_1012 : decode cL_law 1012 = .ok (.aload_n 1, 1) := by decide +kernel
theorem dL_law_1013 : decode cL_law 1013 = .ok (.invokevirtual 110, 3) := by decide +kernel
theorem dL_law_1016 : decode cL_law 1016 = .ok (.aload_n 2, 1) := by decide +kernel
theorem dL_law_1017 : decode cL_law 1017 = .ok (.invokevirtual 113, 3) := by decide +kernel
theorem dL_law_1020 : decode cL_law 1020 = .ok (.if_icmp .eq 18, 3) := by decide +kernel
theorem dL_law_1023 : decode cL_law 1023 = .ok (.iconst 0, 1) := by decide +kernel
theorem dL_law_1024 : decode cL_law 1024 = .ok (.ireturn, 1) := by decide +kernel
theorem dL_law_1025 : decode cL_law 1025 = .ok (.aload_n 1, 1) := by decide +kernel
theorem dL_law_1026 : decode cL_law 1026 = .ok (.invokevirtual 114, 3) := by decide +kernel
theorem dL_law_1029 : decode cL_law 1029 = .ok (.aload_n 2, 1) := by decide +kernel
theorem dL_law_1030 : decode cL_law 1030 = .ok (.invokevirtual 117, 3) := by decide +kernel
theorem dL_law_1033 : decode cL_law 1033 = .ok (.if_icmp .eq 5, 3) := by decide +kernel
theorem dL_law_1036 : decode cL_law 1036 = .ok (.iconst 0, 1) := by decide +kernel
theorem dL_law_1037 : decode cL_law 1037 = .ok (.ireturn, 1) := by decide +kernel
theorem dL_law_1038 : decode cL_law 1038 = .ok (.iinc 4 6, 3) := by decide +kernel
theorem dL_law_1041 : decode cL_law 1041 = .ok (.goto (-1018), 3) := by decide +kernel
theorem dL_law_1044 : decode cL_law 1044 = .ok (.iconst 1, 1) := by decide +kernel
theorem dL_law_1045 : decode cL_law 1045 = .ok (.ireturn, 1) := by decide +kernel
