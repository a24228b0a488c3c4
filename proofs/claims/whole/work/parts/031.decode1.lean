theorem dX0_init_0 : decode cX0_init 0 = .ok (.aload_n 0, 1) := by decide +kernel
theorem dX0_init_1 : decode cX0_init 1 = .ok (.invokespecial 3, 3) := by decide +kernel
theorem dX0_init_4 : decode cX0_init 4 = .ok (.aload_n 0, 1) := by decide +kernel
theorem dX0_init_5 : decode cX0_init 5 = .ok (.bipush 6, 2) := by decide +kernel
theorem dX0_init_7 : decode cX0_init 7 = .ok (.anewarray 9, 3) := by decide +kernel
theorem dX0_init_10 : decode cX0_init 10 = .ok (.putfield 11, 3) := by decide +kernel
theorem dX0_init_13 : decode cX0_init 13 = .ok (.iconst 0, 1) := by decide +kernel
theorem dX0_init_14 : decode cX0_init 14 = .ok (.istore_n 1, 1) := by decide +kernel
theorem dX0_init_15 : decode cX0_init 15 = .ok (.iload_n 1, 1) := by decide +kernel
theorem dX0_init_16 : decode cX0_init 16 = .ok (.bipush 6, 2) := by decide +kernel
theorem dX0_init_18 : decode cX0_init 18 = .ok (.if_icmp .ge 22, 3) := by decide +kernel
theorem dX0_init_21 : decode cX0_init 21 = .ok (.aload_n 0, 1) := by decide +kernel
theorem dX0_init_22 : decode cX0_init 22 = .ok (.getfield 11, 3) := by decide +kernel
theorem dX0_init_25 : decode cX0_init 25 = .ok (.iload_n 1, 1) := by decide +kernel
theorem dX0_init_26 : decode cX0_init 26 = .ok (.new 9, 3) := by decide +kernel
theorem dX0_init_29 : decode cX0_init 29 = .ok (.dup, 1) := by decide +kernel
theorem dX0_init_30 : decode cX0_init 30 = .ok (.invokespecial 17, 3) := by decide +kernel
theorem dX0_init_33 : decode cX0_init 33 = .ok (.aastore, 1) := by decide +kernel
theorem dX0_init_34 : decode cX0_init 34 = .ok (.iinc 1 1, 3) := by decide +kernel
theorem dX0_init_37 : decode cX0_init 37 = .ok (.goto (-22), 3) := by decide +kernel
theorem dX0_init_40 : decode cX0_init 40 = .ok (.aload_n 0, 1) := by decide +kernel
theorem dX0_init_41 : decode cX0_init 41 = .ok (.bipush 6, 2) := by decide +kernel
theorem dX0_init_43 : decode cX0_init 43 = .ok (.anewarray 18, 3) := by decide +kernel
theorem dX0_init_46 : decode cX0_init 46 = .ok (.putfield 20, 3) := by decide +kernel
theorem dX0_init_49 : decode cX0_init 49 = .ok (.iconst 0, 1) := by decide +kernel
theorem dX0_init_50 : decode cX0_init 50 = .ok (.istore_n 1, 1) := by decide +kernel
theorem dX0_init_51 : decode cX0_init 51 = .ok (.iload_n 1, 1) := by decide +kernel
theorem dX0_init_52 : decode cX0_init 52 = .ok (.bipush 6, 2) := by decide +kernel
theorem dX0_init_54 : decode cX0_init 54 = .ok (.if_icmp .ge 22, 3) := by decide +kernel
theorem dX0_init_57 : decode cX0_init 57 = .ok (.aload_n 0, 1) := by decide +kernel
theorem dX0_init_58 : decode cX0_init 58 = .ok (.getfield 20, 3) := by decide +kernel
theorem dX0_init_61 : decode cX0_init 61 = .ok (.iload_n 1, 1) := by decide +kernel
theorem dX0_init_62 : decode cX0_init 62 = .ok (.new 18, 3) := by decide +kernel
theorem dX0_init_65 : decode cX0_init 65 = .ok (.dup, 1) := by decide +kernel
theorem dX0_init_66 : decode cX0_init 66 = .ok (.invokespecial 24, 3) := by decide +kernel
theorem dX0_init_69 : decode cX0_init 69 = .ok (.aastore, 1) := by decide +kernel
theorem dX0_init_70 : decode cX0_init 70 = .ok (.iinc 1 1, 3) := by decide +kernel
theorem dX0_init_73 : decode cX0_init 73 = .ok (.goto (-22), 3) := by decide +kernel
theorem dX0_init_76 : decode cX0_init 76 = .ok (.return_, 1) := by decide +kernel
theorem dX0_forget_0 : decode cX0_forget 0 = .ok (.aload_n 0, 1) := by decide +kernel
theorem dX0_forget_1 : decode cX0_forget 1 = .ok (.iconst 0, 1) := by decide +kernel
theorem dX0_forget_2 : decode cX0_forget 2 = .ok (.putfield 25, 3) := by decide +kernel
theorem dX0_forget_5 : decode cX0_forget 5 = .ok (.aload_n 0, 1) := by decide +kernel
theorem dX0_forget_6 : decode cX0_forget 6 = .ok (.iconst 0, 1) := by decide +kernel
theorem dX0_forget_7 : decode cX0_forget 7 = .ok (.putfield 29, 3) := by decide +kernel
theorem dX0_forget_10 : decode cX0_forget 10 = .ok (.aload_n 0, 1) := by decide +kernel
theorem dX0_forget_11 : decode cX0_forget 11 = .ok (.iconst 0, 1) := by decide +kernel
theorem dX0_forget_12 : decode cX0_forget 12 = .ok (.putfield 32, 3) := by decide +kernel
theorem dX0_forget_15 : decode cX0_forget 15 = .ok (.return_, 1) := by decide +kernel
theorem dX0_addIndex_0 : decode cX0_addIndex 0 = .ok (.aload_n 0, 1) := by decide +kernel
theorem dX0_addIndex_1 : decode cX0_addIndex 1 = .ok (.getfield 29, 3) := by decide +kernel
theorem dX0_addIndex_4 : decode cX0_addIndex 4 = .ok (.ifCond .lt 12, 3) := by decide +kernel
theorem dX0_addIndex_7 : decode cX0_addIndex 7 = .ok (.aload_n 0, 1) := by decide +kernel
theorem dX0_addIndex_8 : decode cX0_addIndex 8 = .ok (.getfield 29, 3) := by decide +kernel
theorem dX0_addIndex_11 : decode cX0_addIndex 11 = .ok (.bipush 6, 2) := by decide +kernel
theorem dX0_addIndex_13 : decode cX0_addIndex 13 = .ok (.if_icmp .lt 5, 3) := by decide +kernel
theorem dX0_addIndex_16 : decode cX0_addIndex 16 = .ok (.aconst_null, 1) := by decide +kernel
theorem dX0_addIndex_17 : decode cX0_addIndex 17 = .ok (.areturn, 1) := by decide +kernel
theorem dX0_addIndex_18 : decode cX0_addIndex 18 = .ok (.aload_n 0, 1) := by decide +kernel
theorem dX0_addIndex_19 : decode cX0_addIndex 19 = .ok (.getfield 11, 3) := by decide +kernel
theorem dX0_addIndex_22 : decode cX0_addIndex 22 = .ok (.aload_n 0, 1) := by decide +kernel
theorem dX0_addIndex_23 : decode cX0_addIndex 23 = .ok (.getfield 29, 3) := by decide +kernel
theorem dX0_addIndex_26 : decode cX0_addIndex 26 = .ok (.aaload, 1) := by decide +kernel
theorem dX0_addIndex_27 : decode cX0_addIndex 27 = .ok (.astore_n 1, 1) := by decide +kernel
theorem dX0_addIndex_28 : decode cX0_addIndex 28 = .ok (.aload_n 1, 1) := by decide +kernel
theorem dX0_addIndex_29 : decode cX0_addIndex 29 = .ok (.invokevirtual 35, 3) := by decide +kernel
theorem dX0_addIndex_32 : decode cX0_addIndex 32 = .ok (.aload_n 0, 1) := by decide +kernel
theorem dX0_addIndex_33 : decode cX0_addIndex 33 = .ok (.dup, 1) := by decide +kernel
theorem dX0_addIndex_34 : decode cX0_addIndex 34 = .ok (.getfield 29, 3) := by decide +kernel
theorem dX0_addIndex_37 : decode cX0_addIndex 37 = .ok (.iconst 1, 1) := by decide +kernel
theorem dX0_addIndex_38 : decode cX0_addIndex 38 = .ok (.iadd, 1) := by decide +kernel
theorem dX0_addIndex_39 : decode cX0_addIndex 39 = .ok (.putfield 29, 3) := by decide +kernel
theorem dX0_addIndex_42 : decode cX0_addIndex 42 = .ok (.aload_n 1, 1) := by decide +kernel
theorem dX0_addIndex_43 : decode cX0_addIndex 43 = .ok (.areturn, 1) := by decide +kernel
theorem dX0_addContract_0 : decode cX0_addContract 0 = .ok (.aload_n 0, 1) := by decide +kernel
theorem dX0_addContract_1 : decode cX0_addContract 1 = .ok (.getfield 32, 3) := by decide +kernel
theorem dX0_addContract_4 : decode cX0_addContract 4 = .ok (.ifCond .lt 12, 3) := by decide +kernel
theorem dX0_addContract_7 : decode cX0_addContract 7 = .ok (.aload_n 0, 1) := by decide +kernel
theorem dX0_addContract_8 : decode cX0_addContract 8 = .ok (.getfield 32, 3) := by decide +kernel
theorem dX0_addContract_11 : decode cX0_addContract 11 = .ok (.bipush 6, 2) := by decide +kernel
theorem dX0_addContract_13 : decode cX0_addContract 13 = .ok (.if_icmp .lt 5, 3) := by decide +kernel
theorem dX0_addContract_16 : decode cX0_addContract 16 = .ok (.aconst_null, 1) := by decide +kernel
theorem dX0_addContract_17 : decode cX0_addContract 17 = .ok (.areturn, 1) := by decide +kernel
theorem dX0_addContract_18 : decode cX0_addContract 18 = .ok (.aload_n 0, 1) := by decide +kernel
theorem dX0_addContract_19 : decode cX0_addContract 19 = .ok (.getfield 20, 3) := by decide +kernel
theorem dX0_addContract_22 : decode cX0_addContract 22 = .ok (.aload_n 0, 1) := by decide +kernel
theorem dX0_addContract_23 : decode cX0_addContract 23 = .ok (.getfield 32, 3) := by decide +kernel
theorem dX0_addContract_26 : decode cX0_addContract 26 = .ok (.aaload, 1) := by decide +kernel
theorem dX0_addContract_27 : decode cX0_addContract 27 = .ok (.astore_n 1, 1) := by decide +kernel
theorem dX0_addContract_28 : decode cX0_addContract 28 = .ok (.aload_n 1, 1) := by decide +kernel
theorem dX0_addContract_29 : decode cX0_addContract 29 = .ok (.iconst 0, 1) := by decide +kernel
theorem dX0_addContract_30 : decode cX0_addContract 30 = .ok (.putfield 38, 3) := by decide +kernel
theorem dX0_addContract_33 : decode cX0_addContract 33 = .ok (.aload_n 0, 1) := by decide +kernel
theorem dX0_addContract_34 : decode cX0_addContract 34 = .ok (.dup, 1) := by decide +kernel
theorem dX0_addContract_35 : decode cX0_addContract 35 = .ok (.getfield 32, 3) := by decide +kernel
theorem dX0_addContract_38 : decode cX0_addContract 38 = .ok (.iconst 1, 1) := by decide +kernel
theorem dX0_addContract_39 : decode cX0_addContract 39 = .ok (.iadd, 1) := by decide +kernel
theorem dX0_addContract_40 : decode cX0_addContract 40 = .ok (.putfield 32, 3) := by decide +kernel
theorem dX0_addContract_43 : decode cX0_addContract 43 = .ok (.aload_n 1, 1) := by decide +kernel
theorem dX0_addContract_44 : decode cX0_addContract 44 = .ok (.areturn, 1) := by decide +kernel
theorem dX0_indexAt_0 : decode cX0_indexAt 0 = .ok (.iload_n 1, 1) := by decide +kernel
theorem dX0_indexAt_1 : decode cX0_indexAt 1 = .ok (.ifCond .lt 26, 3) := by decide +kernel
theorem dX0_indexAt_4 : decode cX0_indexAt 4 = .ok (.iload_n 1, 1) := by decide +kernel
theorem dX0_indexAt_5 : decode cX0_indexAt 5 = .ok (.aload_n 0, 1) := by decide +kernel
theorem dX0_indexAt_6 : decode cX0_indexAt 6 = .ok (.getfield 29, 3) := by decide +kernel
theorem dX0_indexAt_9 : decode cX0_indexAt 9 = .ok (.if_icmp .ge 18, 3) := by decide +kernel
theorem dX0_indexAt_12 : decode cX0_indexAt 12 = .ok (.iload_n 1, 1) := by decide +kernel
theorem dX0_indexAt_13 : decode cX0_indexAt 13 = .ok (.bipush 6, 2) := by decide +kernel
theorem dX0_indexAt_15 : decode cX0_indexAt 15 = .ok (.if_icmp .ge 12, 3) := by decide +kernel
theorem dX0_indexAt_18 : decode cX0_indexAt 18 = .ok (.aload_n 0, 1) := by decide +kernel
theorem dX0_indexAt_19 : decode cX0_indexAt 19 = .ok (.getfield 11, 3) := by decide +kernel
theorem dX0_indexAt_22 : decode cX0_indexAt 22 = .ok (.iload_n 1, 1) := by decide +kernel
theorem dX0_indexAt_23 : decode cX0_indexAt 23 = .ok (.aaload, 1) := by decide +kernel
theorem dX0_indexAt_24 : decode cX0_indexAt 24 = .ok (.goto 4, 3) := by decide +kernel
theorem dX0_indexAt_27 : decode cX0_indexAt 27 = .ok (.aconst_null, 1) := by decide +kernel
theorem dX0_indexAt_28 : decode cX0_indexAt 28 = .ok (.areturn, 1) := by decide +kernel
theorem dX0_contractAt_0 : decode cX0_contractAt 0 = .ok (.iload_n 1, 1) := by decide +kernel
theorem dX0_contractAt_1 : decode cX0_contractAt 1 = .ok (.ifCond .lt 26, 3) := by decide +kernel
theorem dX0_contractAt_4 : decode cX0_contractAt 4 = .ok (.iload_n 1, 1) := by decide +kernel
theorem dX0_contractAt_5 : decode cX0_contractAt 5 = .ok (.aload_n 0, 1) := by decide +kernel
theorem dX0_contractAt_6 : decode cX0_contractAt 6 = .ok (.getfield 32, 3) := by decide +kernel
theorem dX0_contractAt_9 : decode cX0_contractAt 9 = .ok (.if_icmp .ge 18, 3) := by decide +kernel
theorem dX0_contractAt_12 : decode cX0_contractAt 12 = .ok (.iload_n 1, 1) := by decide +kernel
theorem dX0_contractAt_13 : decode cX0_contractAt 13 = .ok (.bipush 6, 2) := by decide +kernel
theorem dX0_contractAt_15 : decode cX0_contractAt 15 = .ok (.if_icmp .ge 12, 3) := by decide +kernel
theorem dX0_contractAt_18 : decode cX0_contractAt 18 = .ok (.aload_n 0, 1) := by decide +kernel
theorem dX0_contractAt_19 : decode cX0_contractAt 19 = .ok (.getfield 20, 3) := by decide +kernel
theorem dX0_contractAt_22 : decode cX0_contractAt 22 = .ok (.iload_n 1, 1) := by decide +kernel
theorem dX0_contractAt_23 : decode cX0_contractAt 23 = .ok (.aaload, 1) := by decide +kernel
theorem dX0_contractAt_24 : decode cX0_contractAt 24 = .ok (.goto 4, 3) := by decide +kernel
theorem dX0_contractAt_27 : decode cX0_contractAt 27 = .ok (.aconst_null, 1) := by decide +kernel
theorem dX0_contractAt_28 : decode cX0_contractAt 28 = .ok (.areturn, 1) := by decide +kernel
theorem dX0_isPast_0 : decode cX0_isPast 0 = .ok (.iload_n 1, 1) := by decide +kernel
theorem dX0_isPast_1 : decode cX0_isPast 1 = .ok (.ifCond .lt 15, 3) := by decide +kernel
theorem dX0_isPast_4 : decode cX0_isPast 4 = .ok (.iload_n 1, 1) := by decide +kernel
theorem dX0_isPast_5 : decode cX0_isPast 5 = .ok (.aload_n 0, 1) := by decide +kernel
theorem dX0_isPast_6 : decode cX0_isPast 6 = .ok (.getfield 25, 3) := by decide +kernel
theorem dX0_isPast_9 : decode cX0_isPast 9 = .ok (.if_icmp .gt 7, 3) := by decide +kernel
theorem dX0_isPast_12 : decode cX0_isPast 12 = .ok (.iconst 1, 1) := by decide +kernel
theorem dX0_isPast_13 : decode cX0_isPast 13 = .ok (.goto 4, 3) := by decide +kernel
theorem dX0_isPast_16 : decode cX0_isPast 16 = .ok (.iconst 0, 1) := by decide +kernel
theorem dX0_isPast_17 : decode cX0_isPast 17 = .ok (.ireturn, 1) := by decide +kernel
theorem dX0_isPriced_0 : decode cX0_isPriced 0 = .ok (.iload_n 2, 1) := by decide +kernel
theorem dX0_isPriced_1 : decode cX0_isPriced 1 = .ok (.aload_n 1, 1) := by decide +kernel
theorem dX0_isPriced_2 : decode cX0_isPriced 2 = .ok (.getfield 41, 3) := by decide +kernel
theorem dX0_isPriced_5 : decode cX0_isPriced 5 = .ok (.if_icmp .lt 15, 3) := by decide +kernel
theorem dX0_isPriced_8 : decode cX0_isPriced 8 = .ok (.iload_n 2, 1) := by decide +kernel
theorem dX0_isPriced_9 : decode cX0_isPriced 9 = .ok (.aload_n 0, 1) := by decide +kernel
theorem dX0_isPriced_10 : decode cX0_isPriced 10 = .ok (.getfield 25, 3) := by decide +kernel
theorem dX0_isPriced_13 : decode cX0_isPriced 13 = .ok (.if_icmp .gt 7, 3) := by decide +kernel
theorem dX0_isPriced_16 : decode cX0_isPriced 16 = .ok (.iconst 1, 1) := by decide +kernel
theorem dX0_isPriced_17 : decode cX0_isPriced 17 = .ok (.goto 4, 3) := by decide +kernel
theorem dX0_isPriced_20 : decode cX0_isPriced 20 = .ok (.iconst 0, 1) := by decide +kernel
theorem dX0_isPriced_21 : decode cX0_isPriced 21 = .ok (.ireturn, 1) := by decide +kernel
theorem dX0_factorOf_0 : decode cX0_factorOf 0 = .ok (.aload_n 1, 1) := by decide +kernel
theorem dX0_factorOf_1 : decode cX0_factorOf 1 = .ok (.getfield 44, 3) := by decide +kernel
theorem dX0_factorOf_4 : decode cX0_factorOf 4 = .ok (.i2l, 1) := by decide +kernel
theorem dX0_factorOf_5 : decode cX0_factorOf 5 = .ok (.ldc2_w 47, 3) := by decide +kernel
theorem dX0_factorOf_8 : decode cX0_factorOf 8 = .ok (.lmul, 1) := by decide +kernel
theorem dX0_factorOf_9 : decode cX0_factorOf 9 = .ok (.lstore_n 3, 1) := by decide +kernel
theorem dX0_factorOf_10 : decode cX0_factorOf 10 = .ok (.iconst 0, 1) := by decide +kernel
theorem dX0_factorOf_11 : decode cX0_factorOf 11 = .ok (.istore 5, 2) := by decide +kernel
theorem dX0_factorOf_13 : decode cX0_factorOf 13 = .ok (.iload 5, 2) := by decide +kernel
theorem dX0_factorOf_15 : decode cX0_factorOf 15 = .ok (.aload_n 1, 1) := by decide +kernel
theorem dX0_factorOf_16 : decode cX0_factorOf 16 = .ok (.getfield 38, 3) := by decide +kernel
theorem dX0_factorOf_19 : decode cX0_factorOf 19 = .ok (.if_icmp .ge 62, 3) := by decide +kernel
theorem dX0_factorOf_22 : decode cX0_factorOf 22 = .ok (.iload 5, 2) := by decide +kernel
theorem dX0_factorOf_24 : decode cX0_factorOf 24 = .ok (.bipush 6, 2) := by decide +kernel
theorem dX0_factorOf_26 : decode cX0_factorOf 26 = .ok (.if_icmp .ge 55, 3) := by decide +kernel
theorem dX0_factorOf_29 : decode cX0_factorOf 29 = .ok (.aload_n 0, 1) := by decide +kernel
theorem dX0_factorOf_30 : decode cX0_factorOf 30 = .ok (.aload_n 1, 1) := by decide +kernel
theorem dX0_factorOf_31 : decode cX0_factorOf 31 = .ok (.getfield 49, 3) := by decide +kernel
theorem dX0_factorOf_34 : decode cX0_factorOf 34 = .ok (.iload 5, 2) := by decide +kernel
theorem dX0_factorOf_36 : decode cX0_factorOf 36 = .ok (.iaload, 1) := by decide +kernel
theorem dX0_factorOf_37 : decode cX0_factorOf 37 = .ok (.invokevirtual 52, 3) := by decide +kernel
theorem dX0_factorOf_40 : decode cX0_factorOf 40 = .ok (.astore 6, 2) := by decide +kernel
theorem dX0_factorOf_42 : decode cX0_factorOf 42 = .ok (.aload 6, 2) := by decide +kernel
theorem dX0_factorOf_44 : decode cX0_factorOf 44 = .ok (.ifnull 31, 3) := by decide +kernel
theorem dX0_factorOf_47 : decode cX0_factorOf 47 = .ok (.lload_n 3, 1) := by decide +kernel
theorem dX0_factorOf_48 : decode cX0_factorOf 48 = .ok (.aload_n 1, 1) := by decide +kernel
theorem dX0_factorOf_49 : decode cX0_factorOf 49 = .ok (.getfield 56, 3) := by decide +kernel
theorem dX0_factorOf_52 : decode cX0_factorOf 52 = .ok (.iload 5, 2) := by decide +kernel
theorem dX0_factorOf_54 : decode cX0_factorOf 54 = .ok (.iaload, 1) := by decide +kernel
theorem dX0_factorOf_55 : decode cX0_factorOf 55 = .ok (.i2l, 1) := by decide +kernel
theorem dX0_factorOf_56 : decode cX0_factorOf 56 = .ok (.aload 6, 2) := by decide +kernel
theorem dX0_factorOf_58 : decode cX0_factorOf 58 = .ok (.aload_n 1, 1) := by decide +kernel
theorem dX0_factorOf_59 : decode cX0_factorOf 59 = .ok (.getfield 41, 3) := by decide +kernel
theorem dX0_factorOf_62 : decode cX0_factorOf 62 = .ok (.aload 6, 2) := by decide +kernel
theorem dX0_factorOf_64 : decode cX0_factorOf 64 = .ok (.iload_n 2, 1) := by decide +kernel
theorem dX0_factorOf_65 : decode cX0_factorOf 65 = .ok (.invokevirtual 59, 3) := by decide +kernel
theorem dX0_factorOf_68 : decode cX0_factorOf 68 = .ok (.invokevirtual 63, 3) := by decide +kernel
theorem dX0_factorOf_71 : decode cX0_factorOf 71 = .ok (.i2l, 1) := by decide +kernel
theorem dX0_factorOf_72 : decode cX0_factorOf 72 = .ok (.lmul, 1) := by decide +kernel
theorem dX0_factorOf_73 : decode cX0_factorOf 73 = .ok (.ladd, 1) := by decide +kernel
theorem dX0_factorOf_74 : decode cX0_factorOf 74 = .ok (.lstore_n 3, 1) := by decide +kernel
theorem dX0_factorOf_75 : decode cX0_factorOf 75 = .ok (.iinc 5 1, 3) := by decide +kernel
theorem dX0_factorOf_78 : decode cX0_factorOf 78 = .ok (.goto (-65), 3) := by decide +kernel
theorem dX0_factorOf_81 : decode cX0_factorOf 81 = .ok (.lload_n 3, 1) := by decide +kernel
theorem dX0_factorOf_82 : decode cX0_factorOf 82 = .ok (.ldc2_w 67, 3) := by decide +kernel
theorem dX0_factorOf_85 : decode cX0_factorOf 85 = .ok (.ldiv, 1) := by decide +kernel
theorem dX0_factorOf_86 : decode cX0_factorOf 86 = .ok (.l2i, 1) := by decide +kernel
theorem dX0_factorOf_87 : decode cX0_factorOf 87 = .ok (.ireturn, 1) := by decide +kernel
theorem dX0_priceFor_0 : decode cX0_priceFor 0 = .ok (.aload_n 1, 1) := by decide +kernel
theorem dX0_priceFor_1 : decode cX0_priceFor 1 = .ok (.aload_n 1, 1) := by decide +kernel
theorem dX0_priceFor_2 : decode cX0_priceFor 2 = .ok (.aload_n 0, 1) := by decide +kernel
theorem dX0_priceFor_3 : decode cX0_priceFor 3 = .ok (.aload_n 1, 1) := by decide +kernel
theorem dX0_priceFor_4 : decode cX0_priceFor 4 = .ok (.iload_n 2, 1) := by decide +kernel
theorem dX0_priceFor_5 : decode cX0_priceFor 5 = .ok (.invokevirtual 69, 3) := by decide +kernel
theorem dX0_priceFor_8 : decode cX0_priceFor 8 = .ok (.invokevirtual 73, 3) := by decide +kernel
theorem dX0_priceFor_11 : decode cX0_priceFor 11 = .ok (.invokevirtual 76, 3) := by decide +kernel
theorem dX0_priceFor_14 : decode cX0_priceFor 14 = .ok (.ireturn, 1) := by decide +kernel
theorem dX0_priceWere_0 : decode cX0_priceWere 0 = .ok (.aload_n 2, 1) := by decide +kernel
theorem dX0_priceWere_1 : decode cX0_priceWere 1 = .ok (.aload_n 0, 1) := by decide +kernel
theorem dX0_priceWere_2 : decode cX0_priceWere 2 = .ok (.getfield 25, 3) := by decide +kernel
theorem dX0_priceWere_5 : decode cX0_priceWere 5 = .ok (.invokevirtual 79, 3) := by decide +kernel
theorem dX0_priceWere_8 : decode cX0_priceWere 8 = .ok (.istore 4, 2) := by decide +kernel
theorem dX0_priceWere_10 : decode cX0_priceWere 10 = .ok (.aload_n 2, 1) := by decide +kernel
theorem dX0_priceWere_11 : decode cX0_priceWere 11 = .ok (.aload_n 0, 1) := by decide +kernel
theorem dX0_priceWere_12 : decode cX0_priceWere 12 = .ok (.getfield 25, 3) := by decide +kernel
theorem dX0_priceWere_15 : decode cX0_priceWere 15 = .ok (.invokevirtual 82, 3) := by decide +kernel
theorem dX0_priceWere_18 : decode cX0_priceWere 18 = .ok (.istore 5, 2) := by decide +kernel
theorem dX0_priceWere_20 : decode cX0_priceWere 20 = .ok (.aload_n 2, 1) := by decide +kernel
theorem dX0_priceWere_21 : decode cX0_priceWere 21 = .ok (.aload_n 0, 1) := by decide +kernel
theorem dX0_priceWere_22 : decode cX0_priceWere 22 = .ok (.getfield 25, 3) := by decide +kernel
theorem dX0_priceWere_25 : decode cX0_priceWere 25 = .ok (.iload_n 3, 1) := by decide +kernel
theorem dX0_priceWere_26 : decode cX0_priceWere 26 = .ok (.iconst 2, 1) := by decide +kernel
theorem dX0_priceWere_27 : decode cX0_priceWere 27 = .ok (.invokevirtual 85, 3) := by decide +kernel
theorem dX0_priceWere_30 : decode cX0_priceWere 30 = .ok (.aload_n 0, 1) := by decide +kernel
theorem dX0_priceWere_31 : decode cX0_priceWere 31 = .ok (.aload_n 1, 1) := by decide +kernel
theorem dX0_priceWere_32 : decode cX0_priceWere 32 = .ok (.aload_n 0, 1) := by decide +kernel
theorem dX0_priceWere_33 : decode cX0_priceWere 33 = .ok (.getfield 25, 3) := by decide +kernel
theorem dX0_priceWere_36 : decode cX0_priceWere 36 = .ok (.invokevirtual 89, 3) := by decide +kernel
theorem dX0_priceWere_39 : decode cX0_priceWere 39 = .ok (.istore 6, 2) := by decide +kernel
theorem dX0_priceWere_41 : decode cX0_priceWere 41 = .ok (.aload_n 2, 1) := by decide +kernel
theorem dX0_priceWere_42 : decode cX0_priceWere 42 = .ok (.aload_n 0, 1) := by decide +kernel
theorem dX0_priceWere_43 : decode cX0_priceWere 43 = .ok (.getfield 25, 3) := by decide +kernel
theorem dX0_priceWere_46 : decode cX0_priceWere 46 = .ok (.iload 5, 2) := by decide +kernel
theorem dX0_priceWere_48 : decode cX0_priceWere 48 = .ok (.iload 4, 2) := by decide +kernel
theorem dX0_priceWere_50 : decode cX0_priceWere 50 = .ok (.invokevirtual 85, 3) := by decide +kernel
theorem dX0_priceWere_53 : decode cX0_priceWere 53 = .ok (.iload 6, 2) := by decide +kernel
theorem dX0_priceWere_55 : decode cX0_priceWere 55 = .ok (.ireturn, 1) := by decide +kernel
theorem dX0_waitsFor_0 : decode cX0_waitsFor 0 = .ok (.aload_n 0, 1) := by decide +kernel
theorem dX0_waitsFor_1 : decode cX0_waitsFor 1 = .ok (.iload_n 1, 1) := by decide +kernel
theorem dX0_waitsFor_2 : decode cX0_waitsFor 2 = .ok (.invokevirtual 92, 3) := by decide +kernel
theorem dX0_waitsFor_5 : decode cX0_waitsFor 5 = .ok (.astore_n 3, 1) := by decide +kernel
theorem dX0_waitsFor_6 : decode cX0_waitsFor 6 = .ok (.aload_n 3, 1) := by decide +kernel
theorem dX0_waitsFor_7 : decode cX0_waitsFor 7 = .ok (.ifnonnull 5, 3) := by decide +kernel
theorem dX0_waitsFor_10 : decode cX0_waitsFor 10 = .ok (.iconst 0, 1) := by decide +kernel
theorem dX0_waitsFor_11 : decode cX0_waitsFor 11 = .ok (.ireturn, 1) := by decide +kernel
theorem dX0_waitsFor_12 : decode cX0_waitsFor 12 = .ok (.iconst 0, 1) := by decide +kernel
theorem dX0_waitsFor_13 : decode cX0_waitsFor 13 = .ok (.istore 4, 2) := by decide +kernel
theorem dX0_waitsFor_15 : decode cX0_waitsFor 15 = .ok (.iconst 0, 1) := by decide +kernel
theorem dX0_waitsFor_16 : decode cX0_waitsFor 16 = .ok (.istore 5, 2) := by decide +kernel
theorem dX0_waitsFor_18 : decode cX0_waitsFor 18 = .ok (.iload 5, 2) := by decide +kernel
theorem dX0_waitsFor_20 : decode cX0_waitsFor 20 = .ok (.aload_n 3, 1) := by decide +kernel
theorem dX0_waitsFor_21 : decode cX0_waitsFor 21 = .ok (.getfield 38, 3) := by decide +kernel
theorem dX0_waitsFor_24 : decode cX0_waitsFor 24 = .ok (.if_icmp .ge 68, 3) := by decide +kernel
theorem dX0_waitsFor_27 : decode cX0_waitsFor 27 = .ok (.iload 5, 2) := by decide +kernel
theorem dX0_waitsFor_29 : decode cX0_waitsFor 29 = .ok (.bipush 6, 2) := by decide +kernel
theorem dX0_waitsFor_31 : decode cX0_waitsFor 31 = .ok (.if_icmp .ge 61, 3) := by decide +kernel
theorem dX0_waitsFor_34 : decode cX0_waitsFor 34 = .ok (.aload_n 0, 1) := by decide +kernel
theorem dX0_waitsFor_35 : decode cX0_waitsFor 35 = .ok (.aload_n 3, 1) := by decide +kernel
theorem dX0_waitsFor_36 : decode cX0_waitsFor 36 = .ok (.getfield 49, 3) := by decide +kernel
theorem dX0_waitsFor_39 : decode cX0_waitsFor 39 = .ok (.iload 5, 2) := by decide +kernel
theorem dX0_waitsFor_41 : decode cX0_waitsFor 41 = .ok (.iaload, 1) := by decide +kernel
theorem dX0_waitsFor_42 : decode cX0_waitsFor 42 = .ok (.invokevirtual 52, 3) := by decide +kernel
theorem dX0_waitsFor_45 : decode cX0_waitsFor 45 = .ok (.astore 6, 2) := by decide +kernel
theorem dX0_waitsFor_47 : decode cX0_waitsFor 47 = .ok (.aload 6, 2) := by decide +kernel
theorem dX0_waitsFor_49 : decode cX0_waitsFor 49 = .ok (.ifnull 37, 3) := by decide +kernel
theorem dX0_waitsFor_52 : decode cX0_waitsFor 52 = .ok (.aload_n 3, 1) := by decide +kernel
theorem dX0_waitsFor_53 : decode cX0_waitsFor 53 = .ok (.getfield 56, 3) := by decide +kernel
theorem dX0_waitsFor_56 : decode cX0_waitsFor 56 = .ok (.iload 5, 2) := by decide +kernel
theorem dX0_waitsFor_58 : decode cX0_waitsFor 58 = .ok (.iaload, 1) := by decide +kernel
theorem dX0_waitsFor_59 : decode cX0_waitsFor 59 = .ok (.ifCond .le 27, 3) := by decide +kernel
theorem dX0_waitsFor_62 : decode cX0_waitsFor 62 = .ok (.aload 6, 2) := by decide +kernel
theorem dX0_waitsFor_64 : decode cX0_waitsFor 64 = .ok (.iload_n 2, 1) := by decide +kernel
theorem dX0_waitsFor_65 : decode cX0_waitsFor 65 = .ok (.invokevirtual 79, 3) := by decide +kernel
theorem dX0_waitsFor_68 : decode cX0_waitsFor 68 = .ok (.iconst 2, 1) := by decide +kernel
theorem dX0_waitsFor_69 : decode cX0_waitsFor 69 = .ok (.if_icmp .eq 17, 3) := by decide +kernel
theorem dX0_waitsFor_72 : decode cX0_waitsFor 72 = .ok (.iload 4, 2) := by decide +kernel
theorem dX0_waitsFor_74 : decode cX0_waitsFor 74 = .ok (.iconst 1, 1) := by decide +kernel
theorem dX0_waitsFor_75 : decode cX0_waitsFor 75 = .ok (.aload_n 3, 1) := by decide +kernel
theorem dX0_waitsFor_76 : decode cX0_waitsFor 76 = .ok (.getfield 49, 3) := by decide +kernel
theorem dX0_waitsFor_79 : decode cX0_waitsFor 79 = .ok (.iload 5, 2) := by decide +kernel
theorem dX0_waitsFor_81 : decode cX0_waitsFor 81 = .ok (.iaload, 1) := by decide +kernel
theorem dX0_waitsFor_82 : decode cX0_waitsFor 82 = .ok (.ishl, 1) := by decide +kernel
theorem dX0_waitsFor_83 : decode cX0_waitsFor 83 = .ok (.ior, 1) := by decide +kernel
theorem dX0_waitsFor_84 : decode cX0_waitsFor 84 = .ok (.istore 4, 2) := by decide +kernel
theorem dX0_waitsFor_86 : decode cX0_waitsFor 86 = .ok (.iinc 5 1, 3) := by decide +kernel
theorem dX0_waitsFor_89 : decode cX0_waitsFor 89 = .ok (.goto (-71), 3) := by decide +kernel
theorem dX0_waitsFor_92 : decode cX0_waitsFor 92 = .ok (.iload 4, 2) := by decide +kernel
theorem dX0_waitsFor_94 : decode cX0_waitsFor 94 = .ok (.ireturn, 1) := by decide +kernel
theorem dX1_init_0 : decode cX1_init 0 = .ok (.aload_n 0, 1) := by decide +kernel
theorem dX1_init_1 : decode cX1_init 1 = .ok (.invokespecial 3, 3) := by decide +kernel
theorem dX1_init_4 : decode cX1_init 4 = .ok (.aload_n 0, 1) := by decide +kernel
theorem dX1_init_5 : decode cX1_init 5 = .ok (.bipush 6, 2) := by decide +kernel
theorem dX1_init_7 : decode cX1_init 7 = .ok (.newarray .int, 2) := by decide +kernel
theorem dX1_init_9 : decode cX1_init 9 = .ok (.putfield 9, 3) := by decide +kernel
theorem dX1_init_12 : decode cX1_init 12 = .ok (.aload_n 0, 1) := by decide +kernel
theorem dX1_init_13 : decode cX1_init 13 = .ok (.bipush 6, 2) := by decide +kernel
theorem dX1_init_15 : decode cX1_init 15 = .ok (.newarray .int, 2) := by decide +kernel
theorem dX1_init_17 : decode cX1_init 17 = .ok (.putfield 15, 3) := by decide +kernel
theorem dX1_init_20 : decode cX1_init 20 = .ok (.return_, 1) := by decide +kernel
theorem dX1_addTerm_0 : decode cX1_addTerm 0 = .ok (.aload_n 0, 1) := by decide +kernel
theorem dX1_addTerm_1 : decode cX1_addTerm 1 = .ok (.getfield 18, 3) := by decide +kernel
theorem dX1_addTerm_4 : decode cX1_addTerm 4 = .ok (.ifCond .lt 42, 3) := by decide +kernel
theorem dX1_addTerm_7 : decode cX1_addTerm 7 = .ok (.aload_n 0, 1) := by decide +kernel
theorem dX1_addTerm_8 : decode cX1_addTerm 8 = .ok (.getfield 18, 3) := by decide +kernel
theorem dX1_addTerm_11 : decode cX1_addTerm 11 = .ok (.bipush 6, 2) := by decide +kernel
theorem dX1_addTerm_13 : decode cX1_addTerm 13 = .ok (.if_icmp .ge 33, 3) := by decide +kernel
theorem dX1_addTerm_16 : decode cX1_addTerm 16 = .ok (.aload_n 0, 1) := by decide +kernel
theorem dX1_addTerm_17 : decode cX1_addTerm 17 = .ok (.getfield 9, 3) := by decide +kernel
theorem dX1_addTerm_20 : decode cX1_addTerm 20 = .ok (.aload_n 0, 1) := by decide +kernel
theorem dX1_addTerm_21 : decode cX1_addTerm 21 = .ok (.getfield 18, 3) := by decide +kernel
theorem dX1_addTerm_24 : decode cX1_addTerm 24 = .ok (.iload_n 1, 1) := by decide +kernel
theorem dX1_addTerm_25 : decode cX1_addTerm 25 = .ok (.iastore, 1) := by decide +kernel
theorem dX1_addTerm_26 : decode cX1_addTerm 26 = .ok (.aload_n 0, 1) := by decide +kernel
theorem dX1_addTerm_27 : decode cX1_addTerm 27 = .ok (.getfield 15, 3) := by decide +kernel
theorem dX1_addTerm_30 : decode cX1_addTerm 30 = .ok (.aload_n 0, 1) := by decide +kernel
theorem dX1_addTerm_31 : decode cX1_addTerm 31 = .ok (.getfield 18, 3) := by decide +kernel
theorem dX1_addTerm_34 : decode cX1_addTerm 34 = .ok (.iload_n 2, 1) := by decide +kernel
theorem dX1_addTerm_35 : decode cX1_addTerm 35 = .ok (.iastore, 1) := by decide +kernel
theorem dX1_addTerm_36 : decode cX1_addTerm 36 = .ok (.aload_n 0, 1) := by decide +kernel
theorem dX1_addTerm_37 : decode cX1_addTerm 37 = .ok (.dup, 1) := by decide +kernel
theorem dX1_addTerm_38 : decode cX1_addTerm 38 = .ok (.getfield 18, 3) := by decide +kernel
theorem dX1_addTerm_41 : decode cX1_addTerm 41 = .ok (.iconst 1, 1) := by decide +kernel
theorem dX1_addTerm_42 : decode cX1_addTerm 42 = .ok (.iadd, 1) := by decide +kernel
theorem dX1_addTerm_43 : decode cX1_addTerm 43 = .ok (.putfield 18, 3) := by decide +kernel
theorem dX1_addTerm_46 : decode cX1_addTerm 46 = .ok (.return_, 1) := by decide +kernel
theorem dX1_usesIndex_0 : decode cX1_usesIndex 0 = .ok (.iconst 0, 1) := by decide +kernel
theorem dX1_usesIndex_1 : decode cX1_usesIndex 1 = .ok (.istore_n 2, 1) := by decide +kernel
theorem dX1_usesIndex_2 : decode cX1_usesIndex 2 = .ok (.iload_n 2, 1) := by decide +kernel
theorem dX1_usesIndex_3 : decode cX1_usesIndex 3 = .ok (.aload_n 0, 1) := by decide +kernel
theorem dX1_usesIndex_4 : decode cX1_usesIndex 4 = .ok (.getfield 18, 3) := by decide +kernel
theorem dX1_usesIndex_7 : decode cX1_usesIndex 7 = .ok (.if_icmp .ge 27, 3) := by decide +kernel
theorem dX1_usesIndex_10 : decode cX1_usesIndex 10 = .ok (.iload_n 2, 1) := by decide +kernel
theorem dX1_usesIndex_11 : decode cX1_usesIndex 11 = .ok (.bipush 6, 2) := by decide +kernel
theorem dX1_usesIndex_13 : decode cX1_usesIndex 13 = .ok (.if_icmp .ge 21, 3) := by decide +kernel
theorem dX1_usesIndex_16 : decode cX1_usesIndex 16 = .ok (.aload_n 0, 1) := by decide +kernel
theorem dX1_usesIndex_17 : decode cX1_usesIndex 17 = .ok (.getfield 15, 3) := by decide +kernel
theorem dX1_usesIndex_20 : decode cX1_usesIndex 20 = .ok (.iload_n 2, 1) := by decide +kernel
theorem dX1_usesIndex_21 : decode cX1_usesIndex 21 = .ok (.iaload, 1) := by decide +kernel
theorem dX1_usesIndex_22 : decode cX1_usesIndex 22 = .ok (.iload_n 1, 1) := by decide +kernel
theorem dX1_usesIndex_23 : decode cX1_usesIndex 23 = .ok (.if_icmp .ne 5, 3) := by decide +kernel
theorem dX1_usesIndex_26 : decode cX1_usesIndex 26 = .ok (.iconst 1, 1) := by decide +kernel
theorem dX1_usesIndex_27 : decode cX1_usesIndex 27 = .ok (.ireturn, 1) := by decide +kernel
theorem dX1_usesIndex_28 : decode cX1_usesIndex 28 = .ok (.iinc 2 1, 3) := by decide +kernel
theorem dX1_usesIndex_31 : decode cX1_usesIndex 31 = .ok (.goto (-29), 3) := by decide +kernel
theorem dX1_usesIndex_34 : decode cX1_usesIndex 34 = .ok (.iconst 0, 1) := by decide +kernel
theorem dX1_usesIndex_35 : decode cX1_usesIndex 35 = .ok (.ireturn, 1) := by decide +kernel
theorem dX1_thousandths_0 : decode cX1_thousandths 0 = .ok (.aload_n 0, 1) := by decide +kernel
theorem dX1_thousandths_1 : decode cX1_thousandths 1 = .ok (.getfield 22, 3) := by decide +kernel
theorem dX1_thousandths_4 : decode cX1_thousandths 4 = .ok (.istore_n 1, 1) := by decide +kernel
theorem dX1_thousandths_5 : decode cX1_thousandths 5 = .ok (.iconst 0, 1) := by decide +kernel
theorem dX1_thousandths_6 : decode cX1_thousandths 6 = .ok (.istore_n 2, 1) := by decide +kernel
theorem dX1_thousandths_7 : decode cX1_thousandths 7 = .ok (.iload_n 2, 1) := by decide +kernel
theorem dX1_thousandths_8 : decode cX1_thousandths 8 = .ok (.aload_n 0, 1) := by decide +kernel
theorem dX1_thousandths_9 : decode cX1_thousandths 9 = .ok (.getfield 18, 3) := by decide +kernel
theorem dX1_thousandths_12 : decode cX1_thousandths 12 = .ok (.if_icmp .ge 24, 3) := by decide +kernel
theorem dX1_thousandths_15 : decode cX1_thousandths 15 = .ok (.iload_n 2, 1) := by decide +kernel
theorem dX1_thousandths_16 : decode cX1_thousandths 16 = .ok (.bipush 6, 2) := by decide +kernel
theorem dX1_thousandths_18 : decode cX1_thousandths 18 = .ok (.if_icmp .ge 18, 3) := by decide +kernel
theorem dX1_thousandths_21 : decode cX1_thousandths 21 = .ok (.iload_n 1, 1) := by decide +kernel
theorem dX1_thousandths_22 : decode cX1_thousandths 22 = .ok (.aload_n 0, 1) := by decide +kernel
theorem dX1_thousandths_23 : decode cX1_thousandths 23 = .ok (.getfield 9, 3) := by decide +kernel
theorem dX1_thousandths_26 : decode cX1_thousandths 26 = .ok (.iload_n 2, 1) := by decide +kernel
theorem dX1_thousandths_27 : decode cX1_thousandths 27 = .ok (.iaload, 1) := by decide +kernel
theorem dX1_thousandths_28 : decode cX1_thousandths 28 = .ok (.iadd, 1) := by decide +kernel
theorem dX1_thousandths_29 : decode cX1_thousandths 29 = .ok (.istore_n 1, 1) := by decide +kernel
theorem dX1_thousandths_30 : decode cX1_thousandths 30 = .ok (.iinc 2 1, 3) := by decide +kernel
theorem dX1_thousandths_33 : decode cX1_thousandths 33 = .ok (.goto (-26), 3) := by decide +kernel
theorem dX1_thousandths_36 : decode cX1_thousandths 36 = .ok (.iload_n 1, 1) := by decide +kernel
theorem dX1_thousandths_37 : decode cX1_thousandths 37 = .ok (.ireturn, 1) := by decide +kernel
theorem dX1_termFigure_0 : decode cX1_termFigure 0 = .ok (.iload_n 1, 1) := by decide +kernel
theorem dX1_termFigure_1 : decode cX1_termFigure 1 = .ok (.iconst 2, 1) := by decide +kernel
theorem dX1_termFigure_2 : decode cX1_termFigure 2 = .ok (.idiv, 1) := by decide +kernel
theorem dX1_termFigure_3 : decode cX1_termFigure 3 = .ok (.istore_n 2, 1) := by decide +kernel
theorem dX1_termFigure_4 : decode cX1_termFigure 4 = .ok (.iload_n 1, 1) := by decide +kernel
theorem dX1_termFigure_5 : decode cX1_termFigure 5 = .ok (.ifCond .lt 17, 3) := by decide +kernel
theorem dX1_termFigure_8 : decode cX1_termFigure 8 = .ok (.iload_n 2, 1) := by decide +kernel
theorem dX1_termFigure_9 : decode cX1_termFigure 9 = .ok (.aload_n 0, 1) := by decide +kernel
theorem dX1_termFigure_10 : decode cX1_termFigure 10 = .ok (.getfield 18, 3) := by decide +kernel
theorem dX1_termFigure_13 : decode cX1_termFigure 13 = .ok (.if_icmp .ge 9, 3) := by decide +kernel
theorem dX1_termFigure_16 : decode cX1_termFigure 16 = .ok (.iload_n 2, 1) := by decide +kernel
theorem dX1_termFigure_17 : decode cX1_termFigure 17 = .ok (.bipush 6, 2) := by decide +kernel
theorem dX1_termFigure_19 : decode cX1_termFigure 19 = .ok (.if_icmp .lt 5, 3) := by decide +kernel
theorem dX1_termFigure_22 : decode cX1_termFigure 22 = .ok (.iconst (-1), 1) := by decide +kernel
theorem dX1_termFigure_23 : decode cX1_termFigure 23 = .ok (.ireturn, 1) := by decide +kernel
theorem dX1_termFigure_24 : decode cX1_termFigure 24 = .ok (.iload_n 1, 1) := by decide +kernel
theorem dX1_termFigure_25 : decode cX1_termFigure 25 = .ok (.iconst 2, 1) := by decide +kernel
theorem dX1_termFigure_26 : decode cX1_termFigure 26 = .ok (.irem, 1) := by decide +kernel
theorem dX1_termFigure_27 : decode cX1_termFigure 27 = .ok (.ifCond .ne 12, 3) := by decide +kernel
theorem dX1_termFigure_30 : decode cX1_termFigure 30 = .ok (.aload_n 0, 1) := by decide +kernel
theorem dX1_termFigure_31 : decode cX1_termFigure 31 = .ok (.getfield 9, 3) := by decide +kernel
theorem dX1_termFigure_34 : decode cX1_termFigure 34 = .ok (.iload_n 2, 1) := by decide +kernel
theorem dX1_termFigure_35 : decode cX1_termFigure 35 = .ok (.iaload, 1) := by decide +kernel
theorem dX1_termFigure_36 : decode cX1_termFigure 36 = .ok (.goto 9, 3) := by decide +kernel
theorem dX1_termFigure_39 : decode cX1_termFigure 39 = .ok (.aload_n 0, 1) := by decide +kernel
theorem dX1_termFigure_40 : decode cX1_termFigure 40 = .ok (.getfield 15, 3) := by decide +kernel
theorem dX1_termFigure_43 : decode cX1_termFigure 43 = .ok (.iload_n 2, 1) := by decide +kernel
theorem dX1_termFigure_44 : decode cX1_termFigure 44 = .ok (.iaload, 1) := by decide +kernel
theorem dX1_termFigure_45 : decode cX1_termFigure 45 = .ok (.ireturn, 1) := by decide +kernel
theorem dX1_moveBy_0 : decode cX1_moveBy 0 = .ok (.iload_n 1, 1) := by decide +kernel
theorem dX1_moveBy_1 : decode cX1_moveBy 1 = .ok (.ldc 25, 2) := by decide +kernel
theorem dX1_moveBy_3 : decode cX1_moveBy 3 = .ok (.isub, 1) := by decide +kernel
theorem dX1_moveBy_4 : decode cX1_moveBy 4 = .ok (.istore_n 2, 1) := by decide +kernel
theorem dX1_moveBy_5 : decode cX1_moveBy 5 = .ok (.aload_n 0, 1) := by decide +kernel
theorem dX1_moveBy_6 : decode cX1_moveBy 6 = .ok (.getfield 26, 3) := by decide +kernel
theorem dX1_moveBy_9 : decode cX1_moveBy 9 = .ok (.sipush 1000, 3) := by decide +kernel
theorem dX1_moveBy_12 : decode cX1_moveBy 12 = .ok (.imul, 1) := by decide +kernel
theorem dX1_moveBy_13 : decode cX1_moveBy 13 = .ok (.istore_n 3, 1) := by decide +kernel
theorem dX1_moveBy_14 : decode cX1_moveBy 14 = .ok (.iload_n 2, 1) := by decide +kernel
theorem dX1_moveBy_15 : decode cX1_moveBy 15 = .ok (.invokestatic 29, 3) := by decide +kernel
theorem dX1_moveBy_18 : decode cX1_moveBy 18 = .ok (.iload_n 3, 1) := by decide +kernel
theorem dX1_moveBy_19 : decode cX1_moveBy 19 = .ok (.if_icmp .gt 5, 3) := by decide +kernel
theorem dX1_moveBy_22 : decode cX1_moveBy 22 = .ok (.iconst 0, 1) := by decide +kernel
theorem dX1_moveBy_23 : decode cX1_moveBy 23 = .ok (.ireturn, 1) := by decide +kernel
theorem dX1_moveBy_24 : decode cX1_moveBy 24 = .ok (.aload_n 0, 1) := by decide +kernel
theorem dX1_moveBy_25 : decode cX1_moveBy 25 = .ok (.getfield 35, 3) := by decide +kernel
theorem dX1_moveBy_28 : decode cX1_moveBy 28 = .ok (.ifCond .eq 16, 3) := by decide +kernel
theorem dX1_moveBy_31 : decode cX1_moveBy 31 = .ok (.iload_n 2, 1) := by decide +kernel
theorem dX1_moveBy_32 : decode cX1_moveBy 32 = .ok (.iload_n 2, 1) := by decide +kernel
theorem dX1_moveBy_33 : decode cX1_moveBy 33 = .ok (.ifCond .ge 7, 3) := by decide +kernel
theorem dX1_moveBy_36 : decode cX1_moveBy 36 = .ok (.iload_n 3, 1) := by decide +kernel
theorem dX1_moveBy_37 : decode cX1_moveBy 37 = .ok (.goto 5, 3) := by decide +kernel
theorem dX1_moveBy_40 : decode cX1_moveBy 40 = .ok (.iload_n 3, 1) := by decide +kernel
theorem dX1_moveBy_41 : decode cX1_moveBy 41 = .ok (.ineg, 1) := by decide +kernel
theorem dX1_moveBy_42 : decode cX1_moveBy 42 = .ok (.iadd, 1) := by decide +kernel
theorem dX1_moveBy_43 : decode cX1_moveBy 43 = .ok (.istore_n 2, 1) := by decide +kernel
theorem dX1_moveBy_44 : decode cX1_moveBy 44 = .ok (.iload_n 2, 1) := by decide +kernel
theorem dX1_moveBy_45 : decode cX1_moveBy 45 = .ok (.i2l, 1) := by decide +kernel
theorem dX1_moveBy_46 : decode cX1_moveBy 46 = .ok (.aload_n 0, 1) := by decide +kernel
theorem dX1_moveBy_47 : decode cX1_moveBy 47 = .ok (.getfield 39, 3) := by decide +kernel
theorem dX1_moveBy_50 : decode cX1_moveBy 50 = .ok (.i2l, 1) := by decide +kernel
theorem dX1_moveBy_51 : decode cX1_moveBy 51 = .ok (.lmul, 1) := by decide +kernel
theorem dX1_moveBy_52 : decode cX1_moveBy 52 = .ok (.ldc2_w 42, 3) := by decide +kernel
theorem dX1_moveBy_55 : decode cX1_moveBy 55 = .ok (.ldiv, 1) := by decide +kernel
theorem dX1_moveBy_56 : decode cX1_moveBy 56 = .ok (.l2i, 1) := by decide +kernel
theorem dX1_moveBy_57 : decode cX1_moveBy 57 = .ok (.ireturn, 1) := by decide +kernel
theorem dX1_priceBy_0 : decode cX1_priceBy 0 = .ok (.aload_n 0, 1) := by decide +kernel
theorem dX1_priceBy_1 : decode cX1_priceBy 1 = .ok (.getfield 44, 3) := by decide +kernel
theorem dX1_priceBy_4 : decode cX1_priceBy 4 = .ok (.i2l, 1) := by decide +kernel
theorem dX1_priceBy_5 : decode cX1_priceBy 5 = .ok (.ldc 25, 2) := by decide +kernel
theorem dX1_priceBy_7 : decode cX1_priceBy 7 = .ok (.iload_n 1, 1) := by decide +kernel
theorem dX1_priceBy_8 : decode cX1_priceBy 8 = .ok (.iadd, 1) := by decide +kernel
theorem dX1_priceBy_9 : decode cX1_priceBy 9 = .ok (.i2l, 1) := by decide +kernel
theorem dX1_priceBy_10 : decode cX1_priceBy 10 = .ok (.lmul, 1) := by decide +kernel
theorem dX1_priceBy_11 : decode cX1_priceBy 11 = .ok (.ldc2_w 47, 3) := by decide +kernel
theorem dX1_priceBy_14 : decode cX1_priceBy 14 = .ok (.ladd, 1) := by decide +kernel
theorem dX1_priceBy_15 : decode cX1_priceBy 15 = .ok (.ldc2_w 49, 3) := by decide +kernel
theorem dX1_priceBy_18 : decode cX1_priceBy 18 = .ok (.ldiv, 1) := by decide +kernel
theorem dX1_priceBy_19 : decode cX1_priceBy 19 = .ok (.l2i, 1) := by decide +kernel
theorem dX1_priceBy_20 : decode cX1_priceBy 20 = .ok (.ireturn, 1) := by decide +kernel
theorem dX2_init_0 : decode cX2_init 0 = .ok (.aload_n 0, 1) := by decide +kernel
theorem dX2_init_1 : decode cX2_init 1 = .ok (.invokespecial 3, 3) := by decide +kernel
theorem dX2_init_4 : decode cX2_init 4 = .ok (.return_, 1) := by decide +kernel
theorem dX2_take_0 : decode cX2_take 0 = .ok (.aload_n 0, 1) := by decide +kernel
theorem dX2_take_1 : decode cX2_take 1 = .ok (.iload_n 1, 1) := by decide +kernel
theorem dX2_take_2 : decode cX2_take 2 = .ok (.putfield 9, 3) := by decide +kernel
theorem dX2_take_5 : decode cX2_take 5 = .ok (.aload_n 0, 1) := by decide +kernel
theorem dX2_take_6 : decode cX2_take 6 = .ok (.iload_n 2, 1) := by decide +kernel
theorem dX2_take_7 : decode cX2_take 7 = .ok (.putfield 15, 3) := by decide +kernel
theorem dX2_take_10 : decode cX2_take 10 = .ok (.aload_n 0, 1) := by decide +kernel
theorem dX2_take_11 : decode cX2_take 11 = .ok (.iload_n 3, 1) := by decide +kernel
theorem dX2_take_12 : decode cX2_take 12 = .ok (.putfield 18, 3) := by decide +kernel
theorem dX2_take_15 : decode cX2_take 15 = .ok (.aload_n 0, 1) := by decide +kernel
theorem dX2_take_16 : decode cX2_take 16 = .ok (.iload 4, 2) := by decide +kernel
theorem dX2_take_18 : decode cX2_take 18 = .ok (.putfield 21, 3) := by decide +kernel
theorem dX2_take_21 : decode cX2_take 21 = .ok (.aload_n 0, 1) := by decide +kernel
theorem dX2_take_22 : decode cX2_take 22 = .ok (.invokevirtual 24, 3) := by decide +kernel
theorem dX2_take_25 : decode cX2_take 25 = .ok (.return_, 1) := by decide +kernel
theorem dX2_bill_0 : decode cX2_bill 0 = .ok (.iload_n 1, 1) := by decide +kernel
theorem dX2_bill_1 : decode cX2_bill 1 = .ok (.iload_n 2, 1) := by decide +kernel
theorem dX2_bill_2 : decode cX2_bill 2 = .ok (.if_icmp .gt 7, 3) := by decide +kernel
theorem dX2_bill_5 : decode cX2_bill 5 = .ok (.iconst 1, 1) := by decide +kernel
theorem dX2_bill_6 : decode cX2_bill 6 = .ok (.goto 4, 3) := by decide +kernel
theorem dX2_bill_9 : decode cX2_bill 9 = .ok (.iconst 0, 1) := by decide +kernel
theorem dX2_bill_10 : decode cX2_bill 10 = .ok (.istore_n 3, 1) := by decide +kernel
theorem dX2_bill_11 : decode cX2_bill 11 = .ok (.aload_n 0, 1) := by decide +kernel
theorem dX2_bill_12 : decode cX2_bill 12 = .ok (.iload_n 3, 1) := by decide +kernel
theorem dX2_bill_13 : decode cX2_bill 13 = .ok (.ifCond .eq 10, 3) := by decide +kernel
theorem dX2_bill_16 : decode cX2_bill 16 = .ok (.aload_n 0, 1) := by decide +kernel
theorem dX2_bill_17 : decode cX2_bill 17 = .ok (.getfield 15, 3) := by decide +kernel
theorem dX2_bill_20 : decode cX2_bill 20 = .ok (.goto 7, 3) := by decide +kernel
theorem dX2_bill_23 : decode cX2_bill 23 = .ok (.aload_n 0, 1) := by decide +kernel
theorem dX2_bill_24 : decode cX2_bill 24 = .ok (.getfield 18, 3) := by decide +kernel
theorem dX2_bill_27 : decode cX2_bill 27 = .ok (.putfield 27, 3) := by decide +kernel
theorem dX2_bill_30 : decode cX2_bill 30 = .ok (.aload_n 0, 1) := by decide +kernel
theorem dX2_bill_31 : decode cX2_bill 31 = .ok (.iload_n 3, 1) := by decide +kernel
theorem dX2_bill_32 : decode cX2_bill 32 = .ok (.ifCond .eq 7, 3) := by decide +kernel
theorem dX2_bill_35 : decode cX2_bill 35 = .ok (.iload_n 1, 1) := by decide +kernel
theorem dX2_bill_36 : decode cX2_bill 36 = .ok (.goto 4, 3) := by decide +kernel
theorem dX2_bill_39 : decode cX2_bill 39 = .ok (.iload_n 2, 1) := by decide +kernel
theorem dX2_bill_40 : decode cX2_bill 40 = .ok (.putfield 30, 3) := by decide +kernel
theorem dX2_bill_43 : decode cX2_bill 43 = .ok (.return_, 1) := by decide +kernel
theorem dX2_billed_0 : decode cX2_billed 0 = .ok (.aload_n 0, 1) := by decide +kernel
theorem dX2_billed_1 : decode cX2_billed 1 = .ok (.getfield 21, 3) := by decide +kernel
theorem dX2_billed_4 : decode cX2_billed 4 = .ok (.i2l, 1) := by decide +kernel
theorem dX2_billed_5 : decode cX2_billed 5 = .ok (.aload_n 0, 1) := by decide +kernel
theorem dX2_billed_6 : decode cX2_billed 6 = .ok (.getfield 30, 3) := by decide +kernel
theorem dX2_billed_9 : decode cX2_billed 9 = .ok (.i2l, 1) := by decide +kernel
theorem dX2_billed_10 : decode cX2_billed 10 = .ok (.lmul, 1) := by decide +kernel
theorem dX2_billed_11 : decode cX2_billed 11 = .ok (.lreturn, 1) := by decide +kernel
theorem dX2_isSettled_0 : decode cX2_isSettled 0 = .ok (.aload_n 0, 1) := by decide +kernel
theorem dX2_isSettled_1 : decode cX2_isSettled 1 = .ok (.getfield 33, 3) := by decide +kernel
theorem dX2_isSettled_4 : decode cX2_isSettled 4 = .ok (.iconst (-1), 1) := by decide +kernel
theorem dX2_isSettled_5 : decode cX2_isSettled 5 = .ok (.if_icmp .eq 7, 3) := by decide +kernel
theorem dX2_isSettled_8 : decode cX2_isSettled 8 = .ok (.iconst 1, 1) := by decide +kernel
theorem dX2_isSettled_9 : decode cX2_isSettled 9 = .ok (.goto 4, 3) := by decide +kernel
theorem dX2_isSettled_12 : decode cX2_isSettled 12 = .ok (.iconst 0, 1) := by decide +kernel
theorem dX2_isSettled_13 : decode cX2_isSettled 13 = .ok (.ireturn, 1) := by decide +kernel
theorem dX2_settle_0 : decode cX2_settle 0 = .ok (.aload_n 0, 1) := by decide +kernel
theorem dX2_settle_1 : decode cX2_settle 1 = .ok (.aload_n 0, 1) := by decide +kernel
theorem dX2_settle_2 : decode cX2_settle 2 = .ok (.getfield 21, 3) := by decide +kernel
theorem dX2_settle_5 : decode cX2_settle 5 = .ok (.i2l, 1) := by decide +kernel
theorem dX2_settle_6 : decode cX2_settle 6 = .ok (.iload_n 1, 1) := by decide +kernel
theorem dX2_settle_7 : decode cX2_settle 7 = .ok (.i2l, 1) := by decide +kernel
theorem dX2_settle_8 : decode cX2_settle 8 = .ok (.lmul, 1) := by decide +kernel
theorem dX2_settle_9 : decode cX2_settle 9 = .ok (.aload_n 0, 1) := by decide +kernel
theorem dX2_settle_10 : decode cX2_settle 10 = .ok (.invokevirtual 36, 3) := by decide +kernel
theorem dX2_settle_13 : decode cX2_settle 13 = .ok (.lsub, 1) := by decide +kernel
theorem dX2_settle_14 : decode cX2_settle 14 = .ok (.putfield 40, 3) := by decide +kernel
theorem dX2_settle_17 : decode cX2_settle 17 = .ok (.aload_n 0, 1) := by decide +kernel
theorem dX2_settle_18 : decode cX2_settle 18 = .ok (.iload_n 2, 1) := by decide +kernel
theorem dX2_settle_19 : decode cX2_settle 19 = .ok (.putfield 33, 3) := by decide +kernel
theorem dX2_settle_22 : decode cX2_settle 22 = .ok (.return_, 1) := by decide +kernel
theorem dX2_unsettle_0 : decode cX2_unsettle 0 = .ok (.aload_n 0, 1) := by decide +kernel
theorem dX2_unsettle_1 : decode cX2_unsettle 1 = .ok (.lconst 0, 1) := by decide +kernel
theorem dX2_unsettle_2 : decode cX2_unsettle 2 = .ok (.putfield 40, 3) := by decide +kernel
theorem dX2_unsettle_5 : decode cX2_unsettle 5 = .ok (.aload_n 0, 1) := by decide +kernel
theorem dX2_unsettle_6 : decode cX2_unsettle 6 = .ok (.iconst (-1), 1) := by decide +kernel
theorem dX2_unsettle_7 : decode cX2_unsettle 7 = .ok (.putfield 33, 3) := by decide +kernel
theorem dX2_unsettle_10 : decode cX2_unsettle 10 = .ok (.return_, 1) := by decide +kernel
theorem dX3_init_0 : decode cX3_init 0 = .ok (.aload_n 0, 1) := by decide +kernel
theorem dX3_init_1 : decode cX3_init 1 = .ok (.invokespecial 3, 3) := by decide +kernel
theorem dX3_init_4 : decode cX3_init 4 = .ok (.aload_n 0, 1) := by decide +kernel
theorem dX3_init_5 : decode cX3_init 5 = .ok (.bipush 8, 2) := by decide +kernel
theorem dX3_init_7 : decode cX3_init 7 = .ok (.newarray .int, 2) := by decide +kernel
theorem dX3_init_9 : decode cX3_init 9 = .ok (.putfield 9, 3) := by decide +kernel
theorem dX3_init_12 : decode cX3_init 12 = .ok (.aload_n 0, 1) := by decide +kernel
theorem dX3_init_13 : decode cX3_init 13 = .ok (.bipush 8, 2) := by decide +kernel
theorem dX3_init_15 : decode cX3_init 15 = .ok (.newarray .int, 2) := by decide +kernel
theorem dX3_init_17 : decode cX3_init 17 = .ok (.putfield 15, 3) := by decide +kernel
theorem dX3_init_20 : decode cX3_init 20 = .ok (.aload_n 0, 1) := by decide +kernel
theorem dX3_init_21 : decode cX3_init 21 = .ok (.bipush 8, 2) := by decide +kernel
theorem dX3_init_23 : decode cX3_init 23 = .ok (.newarray .int, 2) := by decide +kernel
theorem dX3_init_25 : decode cX3_init 25 = .ok (.putfield 18, 3) := by decide +kernel
theorem dX3_init_28 : decode cX3_init 28 = .ok (.aload_n 0, 1) := by decide +kernel
theorem dX3_init_29 : decode cX3_init 29 = .ok (.bipush 8, 2) := by decide +kernel
theorem dX3_init_31 : decode cX3_init 31 = .ok (.newarray .int, 2) := by decide +kernel
theorem dX3_init_33 : decode cX3_init 33 = .ok (.putfield 21, 3) := by decide +kernel
theorem dX3_init_36 : decode cX3_init 36 = .ok (.aload_n 0, 1) := by decide +kernel
theorem dX3_init_37 : decode cX3_init 37 = .ok (.bipush 8, 2) := by decide +kernel
theorem dX3_init_39 : decode cX3_init 39 = .ok (.newarray .int, 2) := by decide +kernel
theorem dX3_init_41 : decode cX3_init 41 = .ok (.putfield 24, 3) := by decide +kernel
theorem dX3_init_44 : decode cX3_init 44 = .ok (.return_, 1) := by decide +kernel
theorem dX3_forget_0 : decode cX3_forget 0 = .ok (.aload_n 0, 1) := by decide +kernel
theorem dX3_forget_1 : decode cX3_forget 1 = .ok (.iconst 0, 1) := by decide +kernel
theorem dX3_forget_2 : decode cX3_forget 2 = .ok (.putfield 27, 3) := by decide +kernel
theorem dX3_forget_5 : decode cX3_forget 5 = .ok (.return_, 1) := by decide +kernel
theorem dX3_keep_0 : decode cX3_keep 0 = .ok (.aload_n 0, 1) := by decide +kernel
theorem dX3_keep_1 : decode cX3_keep 1 = .ok (.getfield 31, 3) := by decide +kernel
theorem dX3_keep_4 : decode cX3_keep 4 = .ok (.ifCond .lt 12, 3) := by decide +kernel
theorem dX3_keep_7 : decode cX3_keep 7 = .ok (.aload_n 0, 1) := by decide +kernel
theorem dX3_keep_8 : decode cX3_keep 8 = .ok (.getfield 31, 3) := by decide +kernel
theorem dX3_keep_11 : decode cX3_keep 11 = .ok (.bipush 8, 2) := by decide +kernel
theorem dX3_keep_13 : decode cX3_keep 13 = .ok (.if_icmp .lt 4, 3) := by decide +kernel
theorem dX3_keep_16 : decode cX3_keep 16 = .ok (.return_, 1) := by decide +kernel
theorem dX3_keep_17 : decode cX3_keep 17 = .ok (.aload_n 0, 1) := by decide +kernel
theorem dX3_keep_18 : decode cX3_keep 18 = .ok (.getfield 9, 3) := by decide +kernel
theorem dX3_keep_21 : decode cX3_keep 21 = .ok (.aload_n 0, 1) := by decide +kernel
theorem dX3_keep_22 : decode cX3_keep 22 = .ok (.getfield 31, 3) := by decide +kernel
theorem dX3_keep_25 : decode cX3_keep 25 = .ok (.iload_n 1, 1) := by decide +kernel
theorem dX3_keep_26 : decode cX3_keep 26 = .ok (.iastore, 1) := by decide +kernel
theorem dX3_keep_27 : decode cX3_keep 27 = .ok (.aload_n 0, 1) := by decide +kernel
theorem dX3_keep_28 : decode cX3_keep 28 = .ok (.getfield 15, 3) := by decide +kernel
theorem dX3_keep_31 : decode cX3_keep 31 = .ok (.aload_n 0, 1) := by decide +kernel
theorem dX3_keep_32 : decode cX3_keep 32 = .ok (.getfield 31, 3) := by decide +kernel
theorem dX3_keep_35 : decode cX3_keep 35 = .ok (.iload_n 2, 1) := by decide +kernel
theorem dX3_keep_36 : decode cX3_keep 36 = .ok (.iastore, 1) := by decide +kernel
theorem dX3_keep_37 : decode cX3_keep 37 = .ok (.aload_n 0, 1) := by decide +kernel
theorem dX3_keep_38 : decode cX3_keep 38 = .ok (.getfield 18, 3) := by decide +kernel
theorem dX3_keep_41 : decode cX3_keep 41 = .ok (.aload_n 0, 1) := by decide +kernel
theorem dX3_keep_42 : decode cX3_keep 42 = .ok (.getfield 31, 3) := by decide +kernel
theorem dX3_keep_45 : decode cX3_keep 45 = .ok (.iload_n 3, 1) := by decide +kernel
theorem dX3_keep_46 : decode cX3_keep 46 = .ok (.iastore, 1) := by decide +kernel
theorem dX3_keep_47 : decode cX3_keep 47 = .ok (.aload_n 0, 1) := by decide +kernel
theorem dX3_keep_48 : decode cX3_keep 48 = .ok (.getfield 21, 3) := by decide +kernel
theorem dX3_keep_51 : decode cX3_keep 51 = .ok (.aload_n 0, 1) := by decide +kernel
theorem dX3_keep_52 : decode cX3_keep 52 = .ok (.getfield 31, 3) := by decide +kernel
theorem dX3_keep_55 : decode cX3_keep 55 = .ok (.iload 4, 2) := by decide +kernel
theorem dX3_keep_57 : decode cX3_keep 57 = .ok (.iastore, 1) := by decide +kernel
theorem dX3_keep_58 : decode cX3_keep 58 = .ok (.aload_n 0, 1) := by decide +kernel
theorem dX3_keep_59 : decode cX3_keep 59 = .ok (.getfield 24, 3) := by decide +kernel
theorem dX3_keep_62 : decode cX3_keep 62 = .ok (.aload_n 0, 1) := by decide +kernel
theorem dX3_keep_63 : decode cX3_keep 63 = .ok (.getfield 31, 3) := by decide +kernel
theorem dX3_keep_66 : decode cX3_keep 66 = .ok (.iload 5, 2) := by decide +kernel
theorem dX3_keep_68 : decode cX3_keep 68 = .ok (.iastore, 1) := by decide +kernel
theorem dX3_keep_69 : decode cX3_keep 69 = .ok (.aload_n 0, 1) := by decide +kernel
theorem dX3_keep_70 : decode cX3_keep 70 = .ok (.aload_n 0, 1) := by decide +kernel
theorem dX3_keep_71 : decode cX3_keep 71 = .ok (.getfield 31, 3) := by decide +kernel
theorem dX3_keep_74 : decode cX3_keep 74 = .ok (.iconst 1, 1) := by decide +kernel
theorem dX3_keep_75 : decode cX3_keep 75 = .ok (.iadd, 1) := by decide +kernel
theorem dX3_keep_76 : decode cX3_keep 76 = .ok (.bipush 8, 2) := by decide +kernel
theorem dX3_keep_78 : decode cX3_keep 78 = .ok (.irem, 1) := by decide +kernel
theorem dX3_keep_79 : decode cX3_keep 79 = .ok (.putfield 31, 3) := by decide +kernel
theorem dX3_keep_82 : decode cX3_keep 82 = .ok (.aload_n 0, 1) := by decide +kernel
theorem dX3_keep_83 : decode cX3_keep 83 = .ok (.aload_n 0, 1) := by decide +kernel
theorem dX3_keep_84 : decode cX3_keep 84 = .ok (.getfield 27, 3) := by decide +kernel
theorem dX3_keep_87 : decode cX3_keep 87 = .ok (.iconst 1, 1) := by decide +kernel
theorem dX3_keep_88 : decode cX3_keep 88 = .ok (.iadd, 1) := by decide +kernel
theorem dX3_keep_89 : decode cX3_keep 89 = .ok (.bipush 8, 2) := by decide +kernel
theorem dX3_keep_91 : decode cX3_keep 91 = .ok (.invokestatic 34, 3) := by decide +kernel
theorem dX3_keep_94 : decode cX3_keep 94 = .ok (.putfield 27, 3) := by decide +kernel
theorem dX3_keep_97 : decode cX3_keep 97 = .ok (.return_, 1) := by decide +kernel
theorem dX3_takeLatest_0 : decode cX3_takeLatest 0 = .ok (.aload_n 0, 1) := by decide +kernel
theorem dX3_takeLatest_1 : decode cX3_takeLatest 1 = .ok (.getfield 27, 3) := by decide +kernel
theorem dX3_takeLatest_4 : decode cX3_takeLatest 4 = .ok (.ifCond .gt 5, 3) := by decide +kernel
theorem dX3_takeLatest_7 : decode cX3_takeLatest 7 = .ok (.iconst (-1), 1) := by decide +kernel
theorem dX3_takeLatest_8 : decode cX3_takeLatest 8 = .ok (.ireturn, 1) := by decide +kernel
theorem dX3_takeLatest_9 : decode cX3_takeLatest 9 = .ok (.aload_n 0, 1) := by decide +kernel
theorem dX3_takeLatest_10 : decode cX3_takeLatest 10 = .ok (.aload_n 0, 1) := by decide +kernel
theorem dX3_takeLatest_11 : decode cX3_takeLatest 11 = .ok (.getfield 31, 3) := by decide +kernel
theorem dX3_takeLatest_14 : decode cX3_takeLatest 14 = .ok (.bipush 8, 2) := by decide +kernel
theorem dX3_takeLatest_16 : decode cX3_takeLatest 16 = .ok (.iadd, 1) := by decide +kernel
theorem dX3_takeLatest_17 : decode cX3_takeLatest 17 = .ok (.iconst 1, 1) := by decide +kernel
theorem dX3_takeLatest_18 : decode cX3_takeLatest 18 = .ok (.isub, 1) := by decide +kernel
theorem dX3_takeLatest_19 : decode cX3_takeLatest 19 = .ok (.bipush 8, 2) := by decide +kernel
theorem dX3_takeLatest_21 : decode cX3_takeLatest 21 = .ok (.irem, 1) := by decide +kernel
theorem dX3_takeLatest_22 : decode cX3_takeLatest 22 = .ok (.putfield 31, 3) := by decide +kernel
theorem dX3_takeLatest_25 : decode cX3_takeLatest 25 = .ok (.aload_n 0, 1) := by decide +kernel
theorem dX3_takeLatest_26 : decode cX3_takeLatest 26 = .ok (.dup, 1) := by decide +kernel
theorem dX3_takeLatest_27 : decode cX3_takeLatest 27 = .ok (.getfield 27, 3) := by decide +kernel
theorem dX3_takeLatest_30 : decode cX3_takeLatest 30 = .ok (.iconst 1, 1) := by decide +kernel
theorem dX3_takeLatest_31 : decode cX3_takeLatest 31 = .ok (.isub, 1) := by decide +kernel
theorem dX3_takeLatest_32 : decode cX3_takeLatest 32 = .ok (.putfield 27, 3) := by decide +kernel
theorem dX3_takeLatest_35 : decode cX3_takeLatest 35 = .ok (.aload_n 0, 1) := by decide +kernel
theorem dX3_takeLatest_36 : decode cX3_takeLatest 36 = .ok (.getfield 31, 3) := by decide +kernel
theorem dX3_takeLatest_39 : decode cX3_takeLatest 39 = .ok (.ireturn, 1) := by decide +kernel
theorem dX4_init_0 : decode cX4_init 0 = .ok (.aload_n 0, 1) := by decide +kernel
theorem dX4_init_1 : decode cX4_init 1 = .ok (.invokespecial 3, 3) := by decide +kernel
theorem dX4_init_4 : decode cX4_init 4 = .ok (.aload_n 0, 1) := by decide +kernel
theorem dX4_init_5 : decode cX4_init 5 = .ok (.bipush 36, 2) := by decide +kernel
theorem dX4_init_7 : decode cX4_init 7 = .ok (.newarray .int, 2) := by decide +kernel
theorem dX4_init_9 : decode cX4_init 9 = .ok (.putfield 9, 3) := by decide +kernel
theorem dX4_init_12 : decode cX4_init 12 = .ok (.aload_n 0, 1) := by decide +kernel
theorem dX4_init_13 : decode cX4_init 13 = .ok (.bipush 36, 2) := by decide +kernel
theorem dX4_init_15 : decode cX4_init 15 = .ok (.newarray .int, 2) := by decide +kernel
theorem dX4_init_17 : decode cX4_init 17 = .ok (.putfield 15, 3) := by decide +kernel
theorem dX4_init_20 : decode cX4_init 20 = .ok (.aload_n 0, 1) := by decide +kernel
theorem dX4_init_21 : decode cX4_init 21 = .ok (.iconst 3, 1) := by decide +kernel
theorem dX4_init_22 : decode cX4_init 22 = .ok (.newarray .int, 2) := by decide +kernel
theorem dX4_init_24 : decode cX4_init 24 = .ok (.putfield 18, 3) := by decide +kernel
theorem dX4_init_27 : decode cX4_init 27 = .ok (.aload_n 0, 1) := by decide +kernel
theorem dX4_init_28 : decode cX4_init 28 = .ok (.iconst 3, 1) := by decide +kernel
theorem dX4_init_29 : decode cX4_init 29 = .ok (.newarray .int, 2) := by decide +kernel
theorem dX4_init_31 : decode cX4_init 31 = .ok (.putfield 21, 3) := by decide +kernel
theorem dX4_init_34 : decode cX4_init 34 = .ok (.aload_n 0, 1) := by decide +kernel
theorem dX4_init_35 : decode cX4_init 35 = .ok (.iconst 3, 1) := by decide +kernel
theorem dX4_init_36 : decode cX4_init 36 = .ok (.newarray .int, 2) := by decide +kernel
theorem dX4_init_38 : decode cX4_init 38 = .ok (.putfield 24, 3) := by decide +kernel
theorem dX4_init_41 : decode cX4_init 41 = .ok (.return_, 1) := by decide +kernel
theorem dX4_forget_0 : decode cX4_forget 0 = .ok (.iconst 0, 1) := by decide +kernel
theorem dX4_forget_1 : decode cX4_forget 1 = .ok (.istore_n 1, 1) := by decide +kernel
theorem dX4_forget_2 : decode cX4_forget 2 = .ok (.iload_n 1, 1) := by decide +kernel
theorem dX4_forget_3 : decode cX4_forget 3 = .ok (.bipush 36, 2) := by decide +kernel
theorem dX4_forget_5 : decode cX4_forget 5 = .ok (.if_icmp .ge 23, 3) := by decide +kernel
theorem dX4_forget_8 : decode cX4_forget 8 = .ok (.aload_n 0, 1) := by decide +kernel
theorem dX4_forget_9 : decode cX4_forget 9 = .ok (.getfield 9, 3) := by decide +kernel
theorem dX4_forget_12 : decode cX4_forget 12 = .ok (.iload_n 1, 1) := by decide +kernel
theorem dX4_forget_13 : decode cX4_forget 13 = .ok (.iconst 0, 1) := by decide +kernel
theorem dX4_forget_14 : decode cX4_forget 14 = .ok (.iastore, 1) := by decide +kernel
theorem dX4_forget_15 : decode cX4_forget 15 = .ok (.aload_n 0, 1) := by decide +kernel
theorem dX4_forget_16 : decode cX4_forget 16 = .ok (.getfield 15, 3) := by decide +kernel
theorem dX4_forget_19 : decode cX4_forget 19 = .ok (.iload_n 1, 1) := by decide +kernel
theorem dX4_forget_20 : decode cX4_forget 20 = .ok (.iconst 0, 1) := by decide +kernel
theorem dX4_forget_21 : decode cX4_forget 21 = .ok (.iastore, 1) := by decide +kernel
theorem dX4_forget_22 : decode cX4_forget 22 = .ok (.iinc 1 1, 3) := by decide +kernel
theorem dX4_forget_25 : decode cX4_forget 25 = .ok (.goto (-23), 3) := by decide +kernel
theorem dX4_forget_28 : decode cX4_forget 28 = .ok (.aload_n 0, 1) := by decide +kernel
theorem dX4_forget_29 : decode cX4_forget 29 = .ok (.iconst 0, 1) := by decide +kernel
theorem dX4_forget_30 : decode cX4_forget 30 = .ok (.putfield 27, 3) := by decide +kernel
theorem dX4_forget_33 : decode cX4_forget 33 = .ok (.return_, 1) := by decide +kernel
theorem dX4_put_0 : decode cX4_put 0 = .ok (.iload_n 1, 1) := by decide +kernel
theorem dX4_put_1 : decode cX4_put 1 = .ok (.invokestatic 31, 3) := by decide +kernel
theorem dX4_put_4 : decode cX4_put 4 = .ok (.ifCond .eq 17, 3) := by decide +kernel
theorem dX4_put_7 : decode cX4_put 7 = .ok (.aload_n 0, 1) := by decide +kernel
theorem dX4_put_8 : decode cX4_put 8 = .ok (.getfield 9, 3) := by decide +kernel
theorem dX4_put_11 : decode cX4_put 11 = .ok (.iload_n 1, 1) := by decide +kernel
theorem dX4_put_12 : decode cX4_put 12 = .ok (.iload_n 2, 1) := by decide +kernel
theorem dX4_put_13 : decode cX4_put 13 = .ok (.iastore, 1) := by decide +kernel
theorem dX4_put_14 : decode cX4_put 14 = .ok (.aload_n 0, 1) := by decide +kernel
theorem dX4_put_15 : decode cX4_put 15 = .ok (.getfield 15, 3) := by decide +kernel
theorem dX4_put_18 : decode cX4_put 18 = .ok (.iload_n 1, 1) := by decide +kernel
theorem dX4_put_19 : decode cX4_put 19 = .ok (.iload_n 3, 1) := by decide +kernel
theorem dX4_put_20 : decode cX4_put 20 = .ok (.iastore, 1) := by decide +kernel
theorem dX4_put_21 : decode cX4_put 21 = .ok (.return_, 1) := by decide +kernel
theorem dX4_kindAt_0 : decode cX4_kindAt 0 = .ok (.iload_n 1, 1) := by decide +kernel
theorem dX4_kindAt_1 : decode cX4_kindAt 1 = .ok (.invokestatic 31, 3) := by decide +kernel
theorem dX4_kindAt_4 : decode cX4_kindAt 4 = .ok (.ifCond .eq 12, 3) := by decide +kernel
theorem dX4_kindAt_7 : decode cX4_kindAt 7 = .ok (.aload_n 0, 1) := by decide +kernel
theorem dX4_kindAt_8 : decode cX4_kindAt 8 = .ok (.getfield 15, 3) := by decide +kernel
theorem dX4_kindAt_11 : decode cX4_kindAt 11 = .ok (.iload_n 1, 1) := by decide +kernel
theorem dX4_kindAt_12 : decode cX4_kindAt 12 = .ok (.iaload, 1) := by decide +kernel
theorem dX4_kindAt_13 : decode cX4_kindAt 13 = .ok (.goto 4, 3) := by decide +kernel
theorem dX4_kindAt_16 : decode cX4_kindAt 16 = .ok (.iconst 0, 1) := by decide +kernel
theorem dX4_kindAt_17 : decode cX4_kindAt 17 = .ok (.ireturn, 1) := by decide +kernel
theorem dX4_hasValue_0 : decode cX4_hasValue 0 = .ok (.aload_n 0, 1) := by decide +kernel
theorem dX4_hasValue_1 : decode cX4_hasValue 1 = .ok (.iload_n 1, 1) := by decide +kernel
theorem dX4_hasValue_2 : decode cX4_hasValue 2 = .ok (.invokevirtual 35, 3) := by decide +kernel
theorem dX4_hasValue_5 : decode cX4_hasValue 5 = .ok (.ifCond .eq 7, 3) := by decide +kernel
theorem dX4_hasValue_8 : decode cX4_hasValue 8 = .ok (.iconst 1, 1) := by decide +kernel
theorem dX4_hasValue_9 : decode cX4_hasValue 9 = .ok (.goto 4, 3) := by decide +kernel
theorem dX4_hasValue_12 : decode cX4_hasValue 12 = .ok (.iconst 0, 1) := by decide +kernel
theorem dX4_hasValue_13 : decode cX4_hasValue 13 = .ok (.ireturn, 1) := by decide +kernel
theorem dX4_valueAt_0 : decode cX4_valueAt 0 = .ok (.iload_n 1, 1) := by decide +kernel
theorem dX4_valueAt_1 : decode cX4_valueAt 1 = .ok (.invokestatic 31, 3) := by decide +kernel
theorem dX4_valueAt_4 : decode cX4_valueAt 4 = .ok (.ifCond .eq 21, 3) := by decide +kernel
theorem dX4_valueAt_7 : decode cX4_valueAt 7 = .ok (.aload_n 0, 1) := by decide +kernel
theorem dX4_valueAt_8 : decode cX4_valueAt 8 = .ok (.getfield 15, 3) := by decide +kernel
theorem dX4_valueAt_11 : decode cX4_valueAt 11 = .ok (.iload_n 1, 1) := by decide +kernel
theorem dX4_valueAt_12 : decode cX4_valueAt 12 = .ok (.iaload, 1) := by decide +kernel
theorem dX4_valueAt_13 : decode cX4_valueAt 13 = .ok (.ifCond .eq 12, 3) := by decide +kernel
theorem dX4_valueAt_16 : decode cX4_valueAt 16 = .ok (.aload_n 0, 1) := by decide +kernel
theorem dX4_valueAt_17 : decode cX4_valueAt 17 = .ok (.getfield 9, 3) := by decide +kernel
theorem dX4_valueAt_20 : decode cX4_valueAt 20 = .ok (.iload_n 1, 1) := by decide +kernel
theorem dX4_valueAt_21 : decode cX4_valueAt 21 = .ok (.iaload, 1) := by decide +kernel
theorem dX4_valueAt_22 : decode cX4_valueAt 22 = .ok (.goto 4, 3) := by decide +kernel
theorem dX4_valueAt_25 : decode cX4_valueAt 25 = .ok (.iconst (-1), 1) := by decide +kernel
theorem dX4_valueAt_26 : decode cX4_valueAt 26 = .ok (.ireturn, 1) := by decide +kernel
theorem dX4_knownMonth_0 : decode cX4_knownMonth 0 = .ok (.iload_n 1, 1) := by decide +kernel
theorem dX4_knownMonth_1 : decode cX4_knownMonth 1 = .ok (.bipush 35, 2) := by decide +kernel
theorem dX4_knownMonth_3 : decode cX4_knownMonth 3 = .ok (.invokestatic 39, 3) := by decide +kernel
theorem dX4_knownMonth_6 : decode cX4_knownMonth 6 = .ok (.istore_n 2, 1) := by decide +kernel
theorem dX4_knownMonth_7 : decode cX4_knownMonth 7 = .ok (.iload_n 2, 1) := by decide +kernel
theorem dX4_knownMonth_8 : decode cX4_knownMonth 8 = .ok (.ifCond .lt 20, 3) := by decide +kernel
theorem dX4_knownMonth_11 : decode cX4_knownMonth 11 = .ok (.aload_n 0, 1) := by decide +kernel
theorem dX4_knownMonth_12 : decode cX4_knownMonth 12 = .ok (.getfield 15, 3) := by decide +kernel
theorem dX4_knownMonth_15 : decode cX4_knownMonth 15 = .ok (.iload_n 2, 1) := by decide +kernel
theorem dX4_knownMonth_16 : decode cX4_knownMonth 16 = .ok (.iaload, 1) := by decide +kernel
theorem dX4_knownMonth_17 : decode cX4_knownMonth 17 = .ok (.ifCond .eq 5, 3) := by decide +kernel
theorem dX4_knownMonth_20 : decode cX4_knownMonth 20 = .ok (.iload_n 2, 1) := by decide +kernel
theorem dX4_knownMonth_21 : decode cX4_knownMonth 21 = .ok (.ireturn, 1) := by decide +kernel
theorem dX4_knownMonth_22 : decode cX4_knownMonth 22 = .ok (.iinc 2 (-1), 3) := by decide +kernel
theorem dX4_knownMonth_25 : decode cX4_knownMonth 25 = .ok (.goto (-18), 3) := by decide +kernel
theorem dX4_knownMonth_28 : decode cX4_knownMonth 28 = .ok (.iconst (-1), 1) := by decide +kernel
theorem dX4_knownMonth_29 : decode cX4_knownMonth 29 = .ok (.ireturn, 1) := by decide +kernel
theorem dX4_hasRebasing_0 : decode cX4_hasRebasing 0 = .ok (.iload_n 1, 1) := by decide +kernel
theorem dX4_hasRebasing_1 : decode cX4_hasRebasing 1 = .ok (.ifCond .lt 20, 3) := by decide +kernel
theorem dX4_hasRebasing_4 : decode cX4_hasRebasing 4 = .ok (.iload_n 1, 1) := by decide +kernel
theorem dX4_hasRebasing_5 : decode cX4_hasRebasing 5 = .ok (.aload_n 0, 1) := by decide +kernel
theorem dX4_hasRebasing_6 : decode cX4_hasRebasing 6 = .ok (.getfield 27, 3) := by decide +kernel
theorem dX4_hasRebasing_9 : decode cX4_hasRebasing 9 = .ok (.if_icmp .ge 12, 3) := by decide +kernel
theorem dX4_hasRebasing_12 : decode cX4_hasRebasing 12 = .ok (.iload_n 1, 1) := by decide +kernel
theorem dX4_hasRebasing_13 : decode cX4_hasRebasing 13 = .ok (.iconst 3, 1) := by decide +kernel
theorem dX4_hasRebasing_14 : decode cX4_hasRebasing 14 = .ok (.if_icmp .ge 7, 3) := by decide +kernel
theorem dX4_hasRebasing_17 : decode cX4_hasRebasing 17 = .ok (.iconst 1, 1) := by decide +kernel
theorem dX4_hasRebasing_18 : decode cX4_hasRebasing 18 = .ok (.goto 4, 3) := by decide +kernel
theorem dX4_hasRebasing_21 : decode cX4_hasRebasing 21 = .ok (.iconst 0, 1) := by decide +kernel
theorem dX4_hasRebasing_22 : decode cX4_hasRebasing 22 = .ok (.ireturn, 1) := by decide +kernel
theorem dX4_latestRebasing_0 : decode cX4_latestRebasing 0 = .ok (.aload_n 0, 1) := by decide +kernel
theorem dX4_latestRebasing_1 : decode cX4_latestRebasing 1 = .ok (.aload_n 0, 1) := by decide +kernel
theorem dX4_latestRebasing_2 : decode cX4_latestRebasing 2 = .ok (.getfield 27, 3) := by decide +kernel
theorem dX4_latestRebasing_5 : decode cX4_latestRebasing 5 = .ok (.iconst 1, 1) := by decide +kernel
theorem dX4_latestRebasing_6 : decode cX4_latestRebasing 6 = .ok (.isub, 1) := by decide +kernel
theorem dX4_latestRebasing_7 : decode cX4_latestRebasing 7 = .ok (.invokevirtual 45, 3) := by decide +kernel
theorem dX4_latestRebasing_10 : decode cX4_latestRebasing 10 = .ok (.ifCond .eq 17, 3) := by decide +kernel
theorem dX4_latestRebasing_13 : decode cX4_latestRebasing 13 = .ok (.aload_n 0, 1) := by decide +kernel
theorem dX4_latestRebasing_14 : decode cX4_latestRebasing 14 = .ok (.getfield 18, 3) := by decide +kernel
theorem dX4_latestRebasing_17 : decode cX4_latestRebasing 17 = .ok (.aload_n 0, 1) := by decide +kernel
theorem dX4_latestRebasing_18 : decode cX4_latestRebasing 18 = .ok (.getfield 27, 3) := by decide +kernel
theorem dX4_latestRebasing_21 : decode cX4_latestRebasing 21 = .ok (.iconst 1, 1) := by decide +kernel
theorem dX4_latestRebasing_22 : decode cX4_latestRebasing 22 = .ok (.isub, 1) := by decide +kernel
theorem dX4_latestRebasing_23 : decode cX4_latestRebasing 23 = .ok (.iaload, 1) := by decide +kernel
theorem dX4_latestRebasing_24 : decode cX4_latestRebasing 24 = .ok (.goto 4, 3) := by decide +kernel
theorem dX4_latestRebasing_27 : decode cX4_latestRebasing 27 = .ok (.iconst (-1), 1) := by decide +kernel
theorem dX4_latestRebasing_28 : decode cX4_latestRebasing 28 = .ok (.ireturn, 1) := by decide +kernel
theorem dX4_addRebasing_0 : decode cX4_addRebasing 0 = .ok (.aload_n 0, 1) := by decide +kernel
theorem dX4_addRebasing_1 : decode cX4_addRebasing 1 = .ok (.getfield 27, 3) := by decide +kernel
theorem dX4_addRebasing_4 : decode cX4_addRebasing 4 = .ok (.ifCond .lt 55, 3) := by decide +kernel
theorem dX4_addRebasing_7 : decode cX4_addRebasing 7 = .ok (.aload_n 0, 1) := by decide +kernel
theorem dX4_addRebasing_8 : decode cX4_addRebasing 8 = .ok (.getfield 27, 3) := by decide +kernel
theorem dX4_addRebasing_11 : decode cX4_addRebasing 11 = .ok (.iconst 3, 1) := by decide +kernel
theorem dX4_addRebasing_12 : decode cX4_addRebasing 12 = .ok (.if_icmp .ge 47, 3) := by decide +kernel
theorem dX4_addRebasing_15 : decode cX4_addRebasing 15 = .ok (.aload_n 0, 1) := by decide +kernel
theorem dX4_addRebasing_16 : decode cX4_addRebasing 16 = .ok (.getfield 18, 3) := by decide +kernel
theorem dX4_addRebasing_19 : decode cX4_addRebasing 19 = .ok (.aload_n 0, 1) := by decide +kernel
theorem dX4_addRebasing_20 : decode cX4_addRebasing 20 = .ok (.getfield 27, 3) := by decide +kernel
theorem dX4_addRebasing_23 : decode cX4_addRebasing 23 = .ok (.iload_n 1, 1) := by decide +kernel
theorem dX4_addRebasing_24 : decode cX4_addRebasing 24 = .ok (.iastore, 1) := by decide +kernel
theorem dX4_addRebasing_25 : decode cX4_addRebasing 25 = .ok (.aload_n 0, 1) := by decide +kernel
theorem dX4_addRebasing_26 : decode cX4_addRebasing 26 = .ok (.getfield 21, 3) := by decide +kernel
theorem dX4_addRebasing_29 : decode cX4_addRebasing 29 = .ok (.aload_n 0, 1) := by decide +kernel
theorem dX4_addRebasing_30 : decode cX4_addRebasing 30 = .ok (.getfield 27, 3) := by decide +kernel
theorem dX4_addRebasing_33 : decode cX4_addRebasing 33 = .ok (.aload_n 0, 1) := by decide +kernel
theorem dX4_addRebasing_34 : decode cX4_addRebasing 34 = .ok (.iload_n 1, 1) := by decide +kernel
theorem dX4_addRebasing_35 : decode cX4_addRebasing 35 = .ok (.invokevirtual 48, 3) := by decide +kernel
theorem dX4_addRebasing_38 : decode cX4_addRebasing 38 = .ok (.iastore, 1) := by decide +kernel
theorem dX4_addRebasing_39 : decode cX4_addRebasing 39 = .ok (.aload_n 0, 1) := by decide +kernel
theorem dX4_addRebasing_40 : decode cX4_addRebasing 40 = .ok (.getfield 24, 3) := by decide +kernel
theorem dX4_addRebasing_43 : decode cX4_addRebasing 43 = .ok (.aload_n 0, 1) := by decide +kernel
theorem dX4_addRebasing_44 : decode cX4_addRebasing 44 = .ok (.getfield 27, 3) := by decide +kernel
theorem dX4_addRebasing_47 : decode cX4_addRebasing 47 = .ok (.iload_n 2, 1) := by decide +kernel
theorem dX4_addRebasing_48 : decode cX4_addRebasing 48 = .ok (.iastore, 1) := by decide +kernel
theorem dX4_addRebasing_49 : decode cX4_addRebasing 49 = .ok (.aload_n 0, 1) := by decide +kernel
theorem dX4_addRebasing_50 : decode cX4_addRebasing 50 = .ok (.dup, 1) := by decide +kernel
theorem dX4_addRebasing_51 : decode cX4_addRebasing 51 = .ok (.getfield 27, 3) := by decide +kernel
theorem dX4_addRebasing_54 : decode cX4_addRebasing 54 = .ok (.iconst 1, 1) := by decide +kernel
theorem dX4_addRebasing_55 : decode cX4_addRebasing 55 = .ok (.iadd, 1) := by decide +kernel
theorem dX4_addRebasing_56 : decode cX4_addRebasing 56 = .ok (.putfield 27, 3) := by decide +kernel
theorem dX4_addRebasing_59 : decode cX4_addRebasing 59 = .ok (.return_, 1) := by decide +kernel
theorem dX4_ratioBetween_0 : decode cX4_ratioBetween 0 = .ok (.aload_n 0, 1) := by decide +kernel
theorem dX4_ratioBetween_1 : decode cX4_ratioBetween 1 = .ok (.iload_n 2, 1) := by decide +kernel
theorem dX4_ratioBetween_2 : decode cX4_ratioBetween 2 = .ok (.invokevirtual 48, 3) := by decide +kernel
theorem dX4_ratioBetween_5 : decode cX4_ratioBetween 5 = .ok (.i2l, 1) := by decide +kernel
theorem dX4_ratioBetween_6 : decode cX4_ratioBetween 6 = .ok (.lstore_n 3, 1) := by decide +kernel
theorem dX4_ratioBetween_7 : decode cX4_ratioBetween 7 = .ok (.aload_n 0, 1) := by decide +kernel
theorem dX4_ratioBetween_8 : decode cX4_ratioBetween 8 = .ok (.iload_n 1, 1) := by decide +kernel
theorem dX4_ratioBetween_9 : decode cX4_ratioBetween 9 = .ok (.invokevirtual 48, 3) := by decide +kernel
theorem dX4_ratioBetween_12 : decode cX4_ratioBetween 12 = .ok (.i2l, 1) := by decide +kernel
theorem dX4_ratioBetween_13 : decode cX4_ratioBetween 13 = .ok (.lstore 5, 2) := by decide +kernel
theorem dX4_ratioBetween_15 : decode cX4_ratioBetween 15 = .ok (.iconst 0, 1) := by decide +kernel
theorem dX4_ratioBetween_16 : decode cX4_ratioBetween 16 = .ok (.istore 7, 2) := by decide +kernel
theorem dX4_ratioBetween_18 : decode cX4_ratioBetween 18 = .ok (.iload 7, 2) := by decide +kernel
theorem dX4_ratioBetween_20 : decode cX4_ratioBetween 20 = .ok (.aload_n 0, 1) := by decide +kernel
theorem dX4_ratioBetween_21 : decode cX4_ratioBetween 21 = .ok (.getfield 27, 3) := by decide +kernel
theorem dX4_ratioBetween_24 : decode cX4_ratioBetween 24 = .ok (.if_icmp .ge 61, 3) := by decide +kernel
theorem dX4_ratioBetween_27 : decode cX4_ratioBetween 27 = .ok (.iload 7, 2) := by decide +kernel
theorem dX4_ratioBetween_29 : decode cX4_ratioBetween 29 = .ok (.iconst 3, 1) := by decide +kernel
theorem dX4_ratioBetween_30 : decode cX4_ratioBetween 30 = .ok (.if_icmp .ge 55, 3) := by decide +kernel
theorem dX4_ratioBetween_33 : decode cX4_ratioBetween 33 = .ok (.aload_n 0, 1) := by decide +kernel
theorem dX4_ratioBetween_34 : decode cX4_ratioBetween 34 = .ok (.getfield 18, 3) := by decide +kernel
theorem dX4_ratioBetween_37 : decode cX4_ratioBetween 37 = .ok (.iload 7, 2) := by decide +kernel
theorem dX4_ratioBetween_39 : decode cX4_ratioBetween 39 = .ok (.iaload, 1) := by decide +kernel
theorem dX4_ratioBetween_40 : decode cX4_ratioBetween 40 = .ok (.iload_n 1, 1) := by decide +kernel
theorem dX4_ratioBetween_41 : decode cX4_ratioBetween 41 = .ok (.if_icmp .lt 38, 3) := by decide +kernel
theorem dX4_ratioBetween_44 : decode cX4_ratioBetween 44 = .ok (.aload_n 0, 1) := by decide +kernel
theorem dX4_ratioBetween_45 : decode cX4_ratioBetween 45 = .ok (.getfield 18, 3) := by decide +kernel
theorem dX4_ratioBetween_48 : decode cX4_ratioBetween 48 = .ok (.iload 7, 2) := by decide +kernel
theorem dX4_ratioBetween_50 : decode cX4_ratioBetween 50 = .ok (.iaload, 1) := by decide +kernel
theorem dX4_ratioBetween_51 : decode cX4_ratioBetween 51 = .ok (.iload_n 2, 1) := by decide +kernel
theorem dX4_ratioBetween_52 : decode cX4_ratioBetween 52 = .ok (.if_icmp .ge 27, 3) := by decide +kernel
theorem dX4_ratioBetween_55 : decode cX4_ratioBetween 55 = .ok (.lload_n 3, 1) := by decide +kernel
theorem dX4_ratioBetween_56 : decode cX4_ratioBetween 56 = .ok (.aload_n 0, 1) := by decide +kernel
theorem dX4_ratioBetween_57 : decode cX4_ratioBetween 57 = .ok (.getfield 21, 3) := by decide +kernel
theorem dX4_ratioBetween_60 : decode cX4_ratioBetween 60 = .ok (.iload 7, 2) := by decide +kernel
theorem dX4_ratioBetween_62 : decode cX4_ratioBetween 62 = .ok (.iaload, 1) := by decide +kernel
theorem dX4_ratioBetween_63 : decode cX4_ratioBetween 63 = .ok (.i2l, 1) := by decide +kernel
theorem dX4_ratioBetween_64 : decode cX4_ratioBetween 64 = .ok (.lmul, 1) := by decide +kernel
theorem dX4_ratioBetween_65 : decode cX4_ratioBetween 65 = .ok (.lstore_n 3, 1) := by decide +kernel
theorem dX4_ratioBetween_66 : decode cX4_ratioBetween 66 = .ok (.lload 5, 2) := by decide +kernel
theorem dX4_ratioBetween_68 : decode cX4_ratioBetween 68 = .ok (.aload_n 0, 1) := by decide +kernel
theorem dX4_ratioBetween_69 : decode cX4_ratioBetween 69 = .ok (.getfield 24, 3) := by decide +kernel
theorem dX4_ratioBetween_72 : decode cX4_ratioBetween 72 = .ok (.iload 7, 2) := by decide +kernel
theorem dX4_ratioBetween_74 : decode cX4_ratioBetween 74 = .ok (.iaload, 1) := by decide +kernel
theorem dX4_ratioBetween_75 : decode cX4_ratioBetween 75 = .ok (.i2l, 1) := by decide +kernel
theorem dX4_ratioBetween_76 : decode cX4_ratioBetween 76 = .ok (.lmul, 1) := by decide +kernel
theorem dX4_ratioBetween_77 : decode cX4_ratioBetween 77 = .ok (.lstore 5, 2) := by decide +kernel
theorem dX4_ratioBetween_79 : decode cX4_ratioBetween 79 = .ok (.iinc 7 1, 3) := by decide +kernel
theorem dX4_ratioBetween_82 : decode cX4_ratioBetween 82 = .ok (.goto (-64), 3) := by decide +kernel
theorem dX4_ratioBetween_85 : decode cX4_ratioBetween 85 = .ok (.lload_n 3, 1) := by decide +kernel
theorem dX4_ratioBetween_86 : decode cX4_ratioBetween 86 = .ok (.lconst 0, 1) := by decide +kernel
theorem dX4_ratioBetween_87 : decode cX4_ratioBetween 87 = .ok (.lcmp, 1) := by decide +kernel
theorem dX4_ratioBetween_88 : decode cX4_ratioBetween 88 = .ok (.ifCond .le 10, 3) := by decide +kernel
theorem dX4_ratioBetween_91 : decode cX4_ratioBetween 91 = .ok (.lload 5, 2) := by decide +kernel
theorem dX4_ratioBetween_93 : decode cX4_ratioBetween 93 = .ok (.lconst 0, 1) := by decide +kernel
theorem dX4_ratioBetween_94 : decode cX4_ratioBetween 94 = .ok (.lcmp, 1) := by decide +kernel
theorem dX4_ratioBetween_95 : decode cX4_ratioBetween 95 = .ok (.ifCond .gt 5, 3) := by decide +kernel
theorem dX4_ratioBetween_98 : decode cX4_ratioBetween 98 = .ok (.iconst 0, 1) := by decide +kernel
theorem dX4_ratioBetween_99 : decode cX4_ratioBetween 99 = .ok (.ireturn, 1) := by decide +kernel
theorem dX4_ratioBetween_100 : decode cX4_ratioBetween 100 = .ok (.lload_n 3, 1) := by decide +kernel
theorem dX4_ratioBetween_101 : decode cX4_ratioBetween 101 = .ok (.ldc2_w 51, 3) := by decide +kernel
theorem dX4_ratioBetween_104 : decode cX4_ratioBetween 104 = .ok (.lmul, 1) := by decide +kernel
theorem dX4_ratioBetween_105 : decode cX4_ratioBetween 105 = .ok (.lload 5, 2) := by decide +kernel
theorem dX4_ratioBetween_107 : decode cX4_ratioBetween 107 = .ok (.ldiv, 1) := by decide +kernel
theorem dX4_ratioBetween_108 : decode cX4_ratioBetween 108 = .ok (.ldc2_w 53, 3) := by decide +kernel
theorem dX4_ratioBetween_111 : decode cX4_ratioBetween 111 = .ok (.invokestatic 55, 3) := by decide +kernel
theorem dX4_ratioBetween_114 : decode cX4_ratioBetween 114 = .ok (.l2i, 1) := by decide +kernel
theorem dX4_ratioBetween_115 : decode cX4_ratioBetween 115 = .ok (.ireturn, 1) := by decide +kernel
theorem dX5_init_0 : decode cX5_init 0 = .ok (.aload_n 0, 1) := by decide +kernel
theorem dX5_init_1 : decode cX5_init 1 = .ok (.invokespecial 3, 3) := by decide +kernel
theorem dX5_init_4 : decode cX5_init 4 = .ok (.aload_n 0, 1) := by decide +kernel
theorem dX5_init_5 : decode cX5_init 5 = .ok (.bipush 30, 2) := by decide +kernel
theorem dX5_init_7 : decode cX5_init 7 = .ok (.anewarray 9, 3) := by decide +kernel
theorem dX5_init_10 : decode cX5_init 10 = .ok (.putfield 11, 3) := by decide +kernel
theorem dX5_init_13 : decode cX5_init 13 = .ok (.iconst 0, 1) := by decide +kernel
theorem dX5_init_14 : decode cX5_init 14 = .ok (.istore_n 1, 1) := by decide +kernel
theorem dX5_init_15 : decode cX5_init 15 = .ok (.iload_n 1, 1) := by decide +kernel
theorem dX5_init_16 : decode cX5_init 16 = .ok (.bipush 30, 2) := by decide +kernel
theorem dX5_init_18 : decode cX5_init 18 = .ok (.if_icmp .ge 22, 3) := by decide +kernel
theorem dX5_init_21 : decode cX5_init 21 = .ok (.aload_n 0, 1) := by decide +kernel
theorem dX5_init_22 : decode cX5_init 22 = .ok (.getfield 11, 3) := by decide +kernel
theorem dX5_init_25 : decode cX5_init 25 = .ok (.iload_n 1, 1) := by decide +kernel
theorem dX5_init_26 : decode cX5_init 26 = .ok (.new 9, 3) := by decide +kernel
theorem dX5_init_29 : decode cX5_init 29 = .ok (.dup, 1) := by decide +kernel
theorem dX5_init_30 : decode cX5_init 30 = .ok (.invokespecial 17, 3) := by decide +kernel
theorem dX5_init_33 : decode cX5_init 33 = .ok (.aastore, 1) := by decide +kernel
theorem dX5_init_34 : decode cX5_init 34 = .ok (.iinc 1 1, 3) := by decide +kernel
theorem dX5_init_37 : decode cX5_init 37 = .ok (.goto (-22), 3) := by decide +kernel
theorem dX5_init_40 : decode cX5_init 40 = .ok (.return_, 1) := by decide +kernel
theorem dX5_rowAt_0 : decode cX5_rowAt 0 = .ok (.iload_n 1, 1) := by decide +kernel
theorem dX5_rowAt_1 : decode cX5_rowAt 1 = .ok (.ifCond .lt 26, 3) := by decide +kernel
theorem dX5_rowAt_4 : decode cX5_rowAt 4 = .ok (.iload_n 1, 1) := by decide +kernel
theorem dX5_rowAt_5 : decode cX5_rowAt 5 = .ok (.aload_n 0, 1) := by decide +kernel
theorem dX5_rowAt_6 : decode cX5_rowAt 6 = .ok (.getfield 18, 3) := by decide +kernel
theorem dX5_rowAt_9 : decode cX5_rowAt 9 = .ok (.if_icmp .ge 18, 3) := by decide +kernel
theorem dX5_rowAt_12 : decode cX5_rowAt 12 = .ok (.iload_n 1, 1) := by decide +kernel
theorem dX5_rowAt_13 : decode cX5_rowAt 13 = .ok (.bipush 30, 2) := by decide +kernel
theorem dX5_rowAt_15 : decode cX5_rowAt 15 = .ok (.if_icmp .ge 12, 3) := by decide +kernel
theorem dX5_rowAt_18 : decode cX5_rowAt 18 = .ok (.aload_n 0, 1) := by decide +kernel
theorem dX5_rowAt_19 : decode cX5_rowAt 19 = .ok (.getfield 11, 3) := by decide +kernel
theorem dX5_rowAt_22 : decode cX5_rowAt 22 = .ok (.iload_n 1, 1) := by decide +kernel
theorem dX5_rowAt_23 : decode cX5_rowAt 23 = .ok (.aaload, 1) := by decide +kernel
theorem dX5_rowAt_24 : decode cX5_rowAt 24 = .ok (.goto 4, 3) := by decide +kernel
theorem dX5_rowAt_27 : decode cX5_rowAt 27 = .ok (.aconst_null, 1) := by decide +kernel
theorem dX5_rowAt_28 : decode cX5_rowAt 28 = .ok (.areturn, 1) := by decide +kernel
theorem dX5_addRow_0 : decode cX5_addRow 0 = .ok (.aload_n 0, 1) := by decide +kernel
theorem dX5_addRow_1 : decode cX5_addRow 1 = .ok (.getfield 18, 3) := by decide +kernel
theorem dX5_addRow_4 : decode cX5_addRow 4 = .ok (.ifCond .lt 12, 3) := by decide +kernel
theorem dX5_addRow_7 : decode cX5_addRow 7 = .ok (.aload_n 0, 1) := by decide +kernel
theorem dX5_addRow_8 : decode cX5_addRow 8 = .ok (.getfield 18, 3) := by decide +kernel
theorem dX5_addRow_11 : decode cX5_addRow 11 = .ok (.bipush 30, 2) := by decide +kernel
theorem dX5_addRow_13 : decode cX5_addRow 13 = .ok (.if_icmp .lt 5, 3) := by decide +kernel
theorem dX5_addRow_16 : decode cX5_addRow 16 = .ok (.aconst_null, 1) := by decide +kernel
theorem dX5_addRow_17 : decode cX5_addRow 17 = .ok (.areturn, 1) := by decide +kernel
theorem dX5_addRow_18 : decode cX5_addRow 18 = .ok (.aload_n 0, 1) := by decide +kernel
theorem dX5_addRow_19 : decode cX5_addRow 19 = .ok (.dup, 1) := by decide +kernel
theorem dX5_addRow_20 : decode cX5_addRow 20 = .ok (.getfield 18, 3) := by decide +kernel
theorem dX5_addRow_23 : decode cX5_addRow 23 = .ok (.iconst 1, 1) := by decide +kernel
theorem dX5_addRow_24 : decode cX5_addRow 24 = .ok (.iadd, 1) := by decide +kernel
theorem dX5_addRow_25 : decode cX5_addRow 25 = .ok (.putfield 18, 3) := by decide +kernel
theorem dX5_addRow_28 : decode cX5_addRow 28 = .ok (.aload_n 0, 1) := by decide +kernel
theorem dX5_addRow_29 : decode cX5_addRow 29 = .ok (.getfield 11, 3) := by decide +kernel
theorem dX5_addRow_32 : decode cX5_addRow 32 = .ok (.aload_n 0, 1) := by decide +kernel
theorem dX5_addRow_33 : decode cX5_addRow 33 = .ok (.getfield 18, 3) := by decide +kernel
theorem dX5_addRow_36 : decode cX5_addRow 36 = .ok (.iconst 1, 1) := by decide +kernel
theorem dX5_addRow_37 : decode cX5_addRow 37 = .ok (.isub, 1) := by decide +kernel
theorem dX5_addRow_38 : decode cX5_addRow 38 = .ok (.aaload, 1) := by decide +kernel
theorem dX5_addRow_39 : decode cX5_addRow 39 = .ok (.areturn, 1) := by decide +kernel
theorem dX5_dropLatest_0 : decode cX5_dropLatest 0 = .ok (.aload_n 0, 1) := by decide +kernel
theorem dX5_dropLatest_1 : decode cX5_dropLatest 1 = .ok (.getfield 18, 3) := by decide +kernel
theorem dX5_dropLatest_4 : decode cX5_dropLatest 4 = .ok (.ifCond .le 13, 3) := by decide +kernel
theorem dX5_dropLatest_7 : decode cX5_dropLatest 7 = .ok (.aload_n 0, 1) := by decide +kernel
theorem dX5_dropLatest_8 : decode cX5_dropLatest 8 = .ok (.dup, 1) := by decide +kernel
theorem dX5_dropLatest_9 : decode cX5_dropLatest 9 = .ok (.getfield 18, 3) := by decide +kernel
theorem dX5_dropLatest_12 : decode cX5_dropLatest 12 = .ok (.iconst 1, 1) := by decide +kernel
theorem dX5_dropLatest_13 : decode cX5_dropLatest 13 = .ok (.isub, 1) := by decide +kernel
theorem dX5_dropLatest_14 : decode cX5_dropLatest 14 = .ok (.putfield 18, 3) := by decide +kernel
theorem dX5_dropLatest_17 : decode cX5_dropLatest 17 = .ok (.return_, 1) := by decide +kernel
theorem dX5_countSettled_0 : decode cX5_countSettled 0 = .ok (.iconst 0, 1) := by decide +kernel
theorem dX5_countSettled_1 : decode cX5_countSettled 1 = .ok (.istore_n 1, 1) := by decide +kernel
theorem dX5_countSettled_2 : decode cX5_countSettled 2 = .ok (.iconst 0, 1) := by decide +kernel
theorem dX5_countSettled_3 : decode cX5_countSettled 3 = .ok (.istore_n 2, 1) := by decide +kernel
theorem dX5_countSettled_4 : decode cX5_countSettled 4 = .ok (.iload_n 2, 1) := by decide +kernel
theorem dX5_countSettled_5 : decode cX5_countSettled 5 = .ok (.aload_n 0, 1) := by decide +kernel
theorem dX5_countSettled_6 : decode cX5_countSettled 6 = .ok (.getfield 18, 3) := by decide +kernel
theorem dX5_countSettled_9 : decode cX5_countSettled 9 = .ok (.if_icmp .ge 30, 3) := by decide +kernel
theorem dX5_countSettled_12 : decode cX5_countSettled 12 = .ok (.iload_n 2, 1) := by decide +kernel
theorem dX5_countSettled_13 : decode cX5_countSettled 13 = .ok (.bipush 30, 2) := by decide +kernel
theorem dX5_countSettled_15 : decode cX5_countSettled 15 = .ok (.if_icmp .ge 24, 3) := by decide +kernel
theorem dX5_countSettled_18 : decode cX5_countSettled 18 = .ok (.aload_n 0, 1) := by decide +kernel
theorem dX5_countSettled_19 : decode cX5_countSettled 19 = .ok (.getfield 11, 3) := by decide +kernel
theorem dX5_countSettled_22 : decode cX5_countSettled 22 = .ok (.iload_n 2, 1) := by decide +kernel
theorem dX5_countSettled_23 : decode cX5_countSettled 23 = .ok (.aaload, 1) := by decide +kernel
theorem dX5_countSettled_24 : decode cX5_countSettled 24 = .ok (.invokevirtual 22, 3) := by decide +kernel
theorem dX5_countSettled_27 : decode cX5_countSettled 27 = .ok (.ifCond .eq 6, 3) := by decide +kernel
theorem dX5_countSettled_30 : decode cX5_countSettled 30 = .ok (.iinc 1 1, 3) := by decide +kernel
theorem dX5_countSettled_33 : decode cX5_countSettled 33 = .ok (.iinc 2 1, 3) := by decide +kernel
theorem dX5_countSettled_36 : decode cX5_countSettled 36 = .ok (.goto (-32), 3) := by decide +kernel
theorem dX5_countSettled_39 : decode cX5_countSettled 39 = .ok (.iload_n 1, 1) := by decide +kernel
theorem dX5_countSettled_40 : decode cX5_countSettled 40 = .ok (.ireturn, 1) := by decide +kernel
theorem dX5_settle_0 : decode cX5_settle 0 = .ok (.iconst 0, 1) := by decide +kernel
theorem dX5_settle_1 : decode cX5_settle 1 = .ok (.istore_n 2, 1) := by decide +kernel
theorem dX5_settle_2 : decode cX5_settle 2 = .ok (.iconst 0, 1) := by decide +kernel
theorem dX5_settle_3 : decode cX5_settle 3 = .ok (.istore_n 3, 1) := by decide +kernel
theorem dX5_settle_4 : decode cX5_settle 4 = .ok (.iload_n 3, 1) := by decide +kernel
theorem dX5_settle_5 : decode cX5_settle 5 = .ok (.aload_n 0, 1) := by decide +kernel
theorem dX5_settle_6 : decode cX5_settle 6 = .ok (.getfield 18, 3) := by decide +kernel
theorem dX5_settle_9 : decode cX5_settle 9 = .ok (.if_icmp .ge 87, 3) := by decide +kernel
theorem dX5_settle_12 : decode cX5_settle 12 = .ok (.iload_n 3, 1) := by decide +kernel
theorem dX5_settle_13 : decode cX5_settle 13 = .ok (.bipush 30, 2) := by decide +kernel
theorem dX5_settle_15 : decode cX5_settle 15 = .ok (.if_icmp .ge 81, 3) := by decide +kernel
theorem dX5_settle_18 : decode cX5_settle 18 = .ok (.aload_n 0, 1) := by decide +kernel
theorem dX5_settle_19 : decode cX5_settle 19 = .ok (.getfield 11, 3) := by decide +kernel
theorem dX5_settle_22 : decode cX5_settle 22 = .ok (.iload_n 3, 1) := by decide +kernel
theorem dX5_settle_23 : decode cX5_settle 23 = .ok (.aaload, 1) := by decide +kernel
theorem dX5_settle_24 : decode cX5_settle 24 = .ok (.astore 4, 2) := by decide +kernel
theorem dX5_settle_26 : decode cX5_settle 26 = .ok (.aload_n 1, 1) := by decide +kernel
theorem dX5_settle_27 : decode cX5_settle 27 = .ok (.aload 4, 2) := by decide +kernel
theorem dX5_settle_29 : decode cX5_settle 29 = .ok (.getfield 26, 3) := by decide +kernel
theorem dX5_settle_32 : decode cX5_settle 32 = .ok (.invokevirtual 29, 3) := by decide +kernel
theorem dX5_settle_35 : decode cX5_settle 35 = .ok (.astore 5, 2) := by decide +kernel
theorem dX5_settle_37 : decode cX5_settle 37 = .ok (.aload 5, 2) := by decide +kernel
theorem dX5_settle_39 : decode cX5_settle 39 = .ok (.ifnull 51, 3) := by decide +kernel
theorem dX5_settle_42 : decode cX5_settle 42 = .ok (.aload 4, 2) := by decide +kernel
theorem dX5_settle_44 : decode cX5_settle 44 = .ok (.invokevirtual 22, 3) := by decide +kernel
theorem dX5_settle_47 : decode cX5_settle 47 = .ok (.ifCond .ne 43, 3) := by decide +kernel
theorem dX5_settle_50 : decode cX5_settle 50 = .ok (.aload_n 1, 1) := by decide +kernel
theorem dX5_settle_51 : decode cX5_settle 51 = .ok (.aload 4, 2) := by decide +kernel
theorem dX5_settle_53 : decode cX5_settle 53 = .ok (.getfield 26, 3) := by decide +kernel
theorem dX5_settle_56 : decode cX5_settle 56 = .ok (.aload 4, 2) := by decide +kernel
theorem dX5_settle_58 : decode cX5_settle 58 = .ok (.getfield 35, 3) := by decide +kernel
theorem dX5_settle_61 : decode cX5_settle 61 = .ok (.invokevirtual 38, 3) := by decide +kernel
theorem dX5_settle_64 : decode cX5_settle 64 = .ok (.ifCond .ne 26, 3) := by decide +kernel
theorem dX5_settle_67 : decode cX5_settle 67 = .ok (.aload 4, 2) := by decide +kernel
theorem dX5_settle_69 : decode cX5_settle 69 = .ok (.aload_n 1, 1) := by decide +kernel
theorem dX5_settle_70 : decode cX5_settle 70 = .ok (.aload 5, 2) := by decide +kernel
theorem dX5_settle_72 : decode cX5_settle 72 = .ok (.aload 4, 2) := by decide +kernel
theorem dX5_settle_74 : decode cX5_settle 74 = .ok (.getfield 35, 3) := by decide +kernel
theorem dX5_settle_77 : decode cX5_settle 77 = .ok (.invokevirtual 42, 3) := by decide +kernel
theorem dX5_settle_80 : decode cX5_settle 80 = .ok (.aload_n 1, 1) := by decide +kernel
theorem dX5_settle_81 : decode cX5_settle 81 = .ok (.getfield 46, 3) := by decide +kernel
theorem dX5_settle_84 : decode cX5_settle 84 = .ok (.invokevirtual 49, 3) := by decide +kernel
theorem dX5_settle_87 : decode cX5_settle 87 = .ok (.iinc 2 1, 3) := by decide +kernel
theorem dX5_settle_90 : decode cX5_settle 90 = .ok (.iinc 3 1, 3) := by decide +kernel
theorem dX5_settle_93 : decode cX5_settle 93 = .ok (.goto (-89), 3) := by decide +kernel
theorem dX5_settle_96 : decode cX5_settle 96 = .ok (.iload_n 2, 1) := by decide +kernel
theorem dX5_settle_97 : decode cX5_settle 97 = .ok (.ireturn, 1) := by decide +kernel
theorem dX5_unsettle_0 : decode cX5_unsettle 0 = .ok (.iconst 0, 1) := by decide +kernel
theorem dX5_unsettle_1 : decode cX5_unsettle 1 = .ok (.istore_n 2, 1) := by decide +kernel
theorem dX5_unsettle_2 : decode cX5_unsettle 2 = .ok (.iload_n 2, 1) := by decide +kernel
theorem dX5_unsettle_3 : decode cX5_unsettle 3 = .ok (.aload_n 0, 1) := by decide +kernel
theorem dX5_unsettle_4 : decode cX5_unsettle 4 = .ok (.getfield 18, 3) := by decide +kernel
theorem dX5_unsettle_7 : decode cX5_unsettle 7 = .ok (.if_icmp .ge 37, 3) := by decide +kernel
theorem dX5_unsettle_10 : decode cX5_unsettle 10 = .ok (.iload_n 2, 1) := by decide +kernel
theorem dX5_unsettle_11 : decode cX5_unsettle 11 = .ok (.bipush 30, 2) := by decide +kernel
theorem dX5_unsettle_13 : decode cX5_unsettle 13 = .ok (.if_icmp .ge 31, 3) := by decide +kernel
theorem dX5_unsettle_16 : decode cX5_unsettle 16 = .ok (.aload_n 0, 1) := by decide +kernel
theorem dX5_unsettle_17 : decode cX5_unsettle 17 = .ok (.getfield 11, 3) := by decide +kernel
theorem dX5_unsettle_20 : decode cX5_unsettle 20 = .ok (.iload_n 2, 1) := by decide +kernel
theorem dX5_unsettle_21 : decode cX5_unsettle 21 = .ok (.aaload, 1) := by decide +kernel
theorem dX5_unsettle_22 : decode cX5_unsettle 22 = .ok (.getfield 53, 3) := by decide +kernel
theorem dX5_unsettle_25 : decode cX5_unsettle 25 = .ok (.iload_n 1, 1) := by decide +kernel
theorem dX5_unsettle_26 : decode cX5_unsettle 26 = .ok (.if_icmp .ne 12, 3) := by decide +kernel
theorem dX5_unsettle_29 : decode cX5_unsettle 29 = .ok (.aload_n 0, 1) := by decide +kernel
theorem dX5_unsettle_30 : decode cX5_unsettle 30 = .ok (.getfield 11, 3) := by decide +kernel
theorem dX5_unsettle_33 : decode cX5_unsettle 33 = .ok (.iload_n 2, 1) := by decide +kernel
theorem dX5_unsettle_34 : decode cX5_unsettle 34 = .ok (.aaload, 1) := by decide +kernel
theorem dX5_unsettle_35 : decode cX5_unsettle 35 = .ok (.invokevirtual 56, 3) := by decide +kernel
theorem dX5_unsettle_38 : decode cX5_unsettle 38 = .ok (.iinc 2 1, 3) := by decide +kernel
theorem dX5_unsettle_41 : decode cX5_unsettle 41 = .ok (.goto (-39), 3) := by decide +kernel
theorem dX5_unsettle_44 : decode cX5_unsettle 44 = .ok (.return_, 1) := by decide +kernel
theorem dX5_billedFrom_0 : decode cX5_billedFrom 0 = .ok (.lconst 0, 1) := by decide +kernel
theorem dX5_billedFrom_1 : decode cX5_billedFrom 1 = .ok (.lstore_n 3, 1) := by decide +kernel
theorem dX5_billedFrom_2 : decode cX5_billedFrom 2 = .ok (.iconst 0, 1) := by decide +kernel
theorem dX5_billedFrom_3 : decode cX5_billedFrom 3 = .ok (.istore 5, 2) := by decide +kernel
theorem dX5_billedFrom_5 : decode cX5_billedFrom 5 = .ok (.iload 5, 2) := by decide +kernel
theorem dX5_billedFrom_7 : decode cX5_billedFrom 7 = .ok (.aload_n 0, 1) := by decide +kernel
theorem dX5_billedFrom_8 : decode cX5_billedFrom 8 = .ok (.getfield 18, 3) := by decide +kernel
theorem dX5_billedFrom_11 : decode cX5_billedFrom 11 = .ok (.if_icmp .ge 57, 3) := by decide +kernel
theorem dX5_billedFrom_14 : decode cX5_billedFrom 14 = .ok (.iload 5, 2) := by decide +kernel
theorem dX5_billedFrom_16 : decode cX5_billedFrom 16 = .ok (.bipush 30, 2) := by decide +kernel
theorem dX5_billedFrom_18 : decode cX5_billedFrom 18 = .ok (.if_icmp .ge 50, 3) := by decide +kernel
theorem dX5_billedFrom_21 : decode cX5_billedFrom 21 = .ok (.aload_n 0, 1) := by decide +kernel
theorem dX5_billedFrom_22 : decode cX5_billedFrom 22 = .ok (.getfield 11, 3) := by decide +kernel
theorem dX5_billedFrom_25 : decode cX5_billedFrom 25 = .ok (.iload 5, 2) := by decide +kernel
theorem dX5_billedFrom_27 : decode cX5_billedFrom 27 = .ok (.aaload, 1) := by decide +kernel
theorem dX5_billedFrom_28 : decode cX5_billedFrom 28 = .ok (.getfield 59, 3) := by decide +kernel
theorem dX5_billedFrom_31 : decode cX5_billedFrom 31 = .ok (.iload_n 1, 1) := by decide +kernel
theorem dX5_billedFrom_32 : decode cX5_billedFrom 32 = .ok (.if_icmp .lt 30, 3) := by decide +kernel
theorem dX5_billedFrom_35 : decode cX5_billedFrom 35 = .ok (.aload_n 0, 1) := by decide +kernel
theorem dX5_billedFrom_36 : decode cX5_billedFrom 36 = .ok (.getfield 11, 3) := by decide +kernel
theorem dX5_billedFrom_39 : decode cX5_billedFrom 39 = .ok (.iload 5, 2) := by decide +kernel
theorem dX5_billedFrom_41 : decode cX5_billedFrom 41 = .ok (.aaload, 1) := by decide +kernel
theorem dX5_billedFrom_42 : decode cX5_billedFrom 42 = .ok (.getfield 59, 3) := by decide +kernel
theorem dX5_billedFrom_45 : decode cX5_billedFrom 45 = .ok (.iload_n 2, 1) := by decide +kernel
theorem dX5_billedFrom_46 : decode cX5_billedFrom 46 = .ok (.if_icmp .gt 16, 3) := by decide +kernel
theorem dX5_billedFrom_49 : decode cX5_billedFrom 49 = .ok (.lload_n 3, 1) := by decide +kernel
theorem dX5_billedFrom_50 : decode cX5_billedFrom 50 = .ok (.aload_n 0, 1) := by decide +kernel
theorem dX5_billedFrom_51 : decode cX5_billedFrom 51 = .ok (.getfield 11, 3) := by decide +kernel
theorem dX5_billedFrom_54 : decode cX5_billedFrom 54 = .ok (.iload 5, 2) := by decide +kernel
theorem dX5_billedFrom_56 : decode cX5_billedFrom 56 = .ok (.aaload, 1) := by decide +kernel
theorem dX5_billedFrom_57 : decode cX5_billedFrom 57 = .ok (.invokevirtual 62, 3) := by decide +kernel
theorem dX5_billedFrom_60 : decode cX5_billedFrom 60 = .ok (.ladd, 1) := by decide +kernel
theorem dX5_billedFrom_61 : decode cX5_billedFrom 61 = .ok (.lstore_n 3, 1) := by decide +kernel
theorem dX5_billedFrom_62 : decode cX5_billedFrom 62 = .ok (.iinc 5 1, 3) := by decide +kernel
theorem dX5_billedFrom_65 : decode cX5_billedFrom 65 = .ok (.goto (-60), 3) := by decide +kernel
theorem dX5_billedFrom_68 : decode cX5_billedFrom 68 = .ok (.lload_n 3, 1) := by decide +kernel
theorem dX5_billedFrom_69 : decode cX5_billedFrom 69 = .ok (.lreturn, 1) := by decide +kernel
theorem dX5_truedFrom_0 : decode cX5_truedFrom 0 = .ok (.lconst 0, 1) := by decide +kernel
theorem dX5_truedFrom_1 : decode cX5_truedFrom 1 = .ok (.lstore_n 3, 1) := by decide +kernel
theorem dX5_truedFrom_2 : decode cX5_truedFrom 2 = .ok (.iconst 0, 1) := by decide +kernel
theorem dX5_truedFrom_3 : decode cX5_truedFrom 3 = .ok (.istore 5, 2) := by decide +kernel
theorem dX5_truedFrom_5 : decode cX5_truedFrom 5 = .ok (.iload 5, 2) := by decide +kernel
theorem dX5_truedFrom_7 : decode cX5_truedFrom 7 = .ok (.aload_n 0, 1) := by decide +kernel
theorem dX5_truedFrom_8 : decode cX5_truedFrom 8 = .ok (.getfield 18, 3) := by decide +kernel
theorem dX5_truedFrom_11 : decode cX5_truedFrom 11 = .ok (.if_icmp .ge 57, 3) := by decide +kernel
theorem dX5_truedFrom_14 : decode cX5_truedFrom 14 = .ok (.iload 5, 2) := by decide +kernel
theorem dX5_truedFrom_16 : decode cX5_truedFrom 16 = .ok (.bipush 30, 2) := by decide +kernel
theorem dX5_truedFrom_18 : decode cX5_truedFrom 18 = .ok (.if_icmp .ge 50, 3) := by decide +kernel
theorem dX5_truedFrom_21 : decode cX5_truedFrom 21 = .ok (.aload_n 0, 1) := by decide +kernel
theorem dX5_truedFrom_22 : decode cX5_truedFrom 22 = .ok (.getfield 11, 3) := by decide +kernel
theorem dX5_truedFrom_25 : decode cX5_truedFrom 25 = .ok (.iload 5, 2) := by decide +kernel
theorem dX5_truedFrom_27 : decode cX5_truedFrom 27 = .ok (.aaload, 1) := by decide +kernel
theorem dX5_truedFrom_28 : decode cX5_truedFrom 28 = .ok (.getfield 53, 3) := by decide +kernel
theorem dX5_truedFrom_31 : decode cX5_truedFrom 31 = .ok (.iload_n 1, 1) := by decide +kernel
theorem dX5_truedFrom_32 : decode cX5_truedFrom 32 = .ok (.if_icmp .lt 30, 3) := by decide +kernel
theorem dX5_truedFrom_35 : decode cX5_truedFrom 35 = .ok (.aload_n 0, 1) := by decide +kernel
theorem dX5_truedFrom_36 : decode cX5_truedFrom 36 = .ok (.getfield 11, 3) := by decide +kernel
theorem dX5_truedFrom_39 : decode cX5_truedFrom 39 = .ok (.iload 5, 2) := by decide +kernel
theorem dX5_truedFrom_41 : decode cX5_truedFrom 41 = .ok (.aaload, 1) := by decide +kernel
theorem dX5_truedFrom_42 : decode cX5_truedFrom 42 = .ok (.getfield 53, 3) := by decide +kernel
theorem dX5_truedFrom_45 : decode cX5_truedFrom 45 = .ok (.iload_n 2, 1) := by decide +kernel
theorem dX5_truedFrom_46 : decode cX5_truedFrom 46 = .ok (.if_icmp .gt 16, 3) := by decide +kernel
theorem dX5_truedFrom_49 : decode cX5_truedFrom 49 = .ok (.lload_n 3, 1) := by decide +kernel
theorem dX5_truedFrom_50 : decode cX5_truedFrom 50 = .ok (.aload_n 0, 1) := by decide +kernel
theorem dX5_truedFrom_51 : decode cX5_truedFrom 51 = .ok (.getfield 11, 3) := by decide +kernel
theorem dX5_truedFrom_54 : decode cX5_truedFrom 54 = .ok (.iload 5, 2) := by decide +kernel
theorem dX5_truedFrom_56 : decode cX5_truedFrom 56 = .ok (.aaload, 1) := by decide +kernel
theorem dX5_truedFrom_57 : decode cX5_truedFrom 57 = .ok (.getfield 66, 3) := by decide +kernel
theorem dX5_truedFrom_60 : decode cX5_truedFrom 60 = .ok (.ladd, 1) := by decide +kernel
theorem dX5_truedFrom_61 : decode cX5_truedFrom 61 = .ok (.lstore_n 3, 1) := by decide +kernel
theorem dX5_truedFrom_62 : decode cX5_truedFrom 62 = .ok (.iinc 5 1, 3) := by decide +kernel
theorem dX5_truedFrom_65 : decode cX5_truedFrom 65 = .ok (.goto (-60), 3) := by decide +kernel
theorem dX5_truedFrom_68 : decode cX5_truedFrom 68 = .ok (.lload_n 3, 1) := by decide +kernel
theorem dX5_truedFrom_69 : decode cX5_truedFrom 69 = .ok (.lreturn, 1) := by decide +kernel
theorem dX6_init_0 : decode cX6_init 0 = .ok (.aload_n 0, 1) := by decide +kernel
theorem dX6_init_1 : decode cX6_init 1 = .ok (.invokespecial 3, 3) := by decide +kernel
theorem dX6_init_4 : decode cX6_init 4 = .ok (.aload_n 0, 1) := by decide +kernel
theorem dX6_init_5 : decode cX6_init 5 = .ok (.sipush 740, 3) := by decide +kernel
theorem dX6_init_8 : decode cX6_init 8 = .ok (.newarray .byte, 2) := by decide +kernel
theorem dX6_init_10 : decode cX6_init 10 = .ok (.putfield 9, 3) := by decide +kernel
theorem dX6_init_13 : decode cX6_init 13 = .ok (.return_, 1) := by decide +kernel
theorem dX6_append_0 : decode cX6_append 0 = .ok (.bipush 24, 2) := by decide +kernel
theorem dX6_append_2 : decode cX6_append 2 = .ok (.istore_n 2, 1) := by decide +kernel
theorem dX6_append_3 : decode cX6_append 3 = .ok (.iload_n 2, 1) := by decide +kernel
theorem dX6_append_4 : decode cX6_append 4 = .ok (.ifCond .lt 49, 3) := by decide +kernel
theorem dX6_append_7 : decode cX6_append 7 = .ok (.aload_n 0, 1) := by decide +kernel
theorem dX6_append_8 : decode cX6_append 8 = .ok (.getfield 15, 3) := by decide +kernel
theorem dX6_append_11 : decode cX6_append 11 = .ok (.ifCond .lt 36, 3) := by decide +kernel
theorem dX6_append_14 : decode cX6_append 14 = .ok (.aload_n 0, 1) := by decide +kernel
theorem dX6_append_15 : decode cX6_append 15 = .ok (.getfield 15, 3) := by decide +kernel
theorem dX6_append_18 : decode cX6_append 18 = .ok (.sipush 740, 3) := by decide +kernel
theorem dX6_append_21 : decode cX6_append 21 = .ok (.if_icmp .ge 26, 3) := by decide +kernel
theorem dX6_append_24 : decode cX6_append 24 = .ok (.aload_n 0, 1) := by decide +kernel
theorem dX6_append_25 : decode cX6_append 25 = .ok (.getfield 9, 3) := by decide +kernel
theorem dX6_append_28 : decode cX6_append 28 = .ok (.aload_n 0, 1) := by decide +kernel
theorem dX6_append_29 : decode cX6_append 29 = .ok (.getfield 15, 3) := by decide +kernel
theorem dX6_append_32 : decode cX6_append 32 = .ok (.iload_n 1, 1) := by decide +kernel
theorem dX6_append_33 : decode cX6_append 33 = .ok (.iload_n 2, 1) := by decide +kernel
theorem dX6_append_34 : decode cX6_append 34 = .ok (.ishr, 1) := by decide +kernel
theorem dX6_append_35 : decode cX6_append 35 = .ok (.i2b, 1) := by decide +kernel
theorem dX6_append_36 : decode cX6_append 36 = .ok (.bastore, 1) := by decide +kernel
theorem dX6_append_37 : decode cX6_append 37 = .ok (.aload_n 0, 1) := by decide +kernel
theorem dX6_append_38 : decode cX6_append 38 = .ok (.dup, 1) := by decide +kernel
theorem dX6_append_39 : decode cX6_append 39 = .ok (.getfield 15, 3) := by decide +kernel
theorem dX6_append_42 : decode cX6_append 42 = .ok (.iconst 1, 1) := by decide +kernel
theorem dX6_append_43 : decode cX6_append 43 = .ok (.iadd, 1) := by decide +kernel
theorem dX6_append_44 : decode cX6_append 44 = .ok (.putfield 15, 3) := by decide +kernel
theorem dX6_append_47 : decode cX6_append 47 = .ok (.iinc 2 (-8), 3) := by decide +kernel
theorem dX6_append_50 : decode cX6_append 50 = .ok (.goto (-47), 3) := by decide +kernel
theorem dX6_append_53 : decode cX6_append 53 = .ok (.return_, 1) := by decide +kernel
theorem dX6_begin_0 : decode cX6_begin 0 = .ok (.aload_n 0, 1) := by decide +kernel
theorem dX6_begin_1 : decode cX6_begin 1 = .ok (.iconst 0, 1) := by decide +kernel
theorem dX6_begin_2 : decode cX6_begin 2 = .ok (.putfield 19, 3) := by decide +kernel
theorem dX6_begin_5 : decode cX6_begin 5 = .ok (.aload_n 0, 1) := by decide +kernel
theorem dX6_begin_6 : decode cX6_begin 6 = .ok (.invokevirtual 22, 3) := by decide +kernel
theorem dX6_begin_9 : decode cX6_begin 9 = .ok (.return_, 1) := by decide +kernel
theorem dX6_byteAt_0 : decode cX6_byteAt 0 = .ok (.iload_n 1, 1) := by decide +kernel
theorem dX6_byteAt_1 : decode cX6_byteAt 1 = .ok (.ifCond .lt 27, 3) := by decide +kernel
theorem dX6_byteAt_4 : decode cX6_byteAt 4 = .ok (.iload_n 1, 1) := by decide +kernel
theorem dX6_byteAt_5 : decode cX6_byteAt 5 = .ok (.aload_n 0, 1) := by decide +kernel
theorem dX6_byteAt_6 : decode cX6_byteAt 6 = .ok (.getfield 15, 3) := by decide +kernel
theorem dX6_byteAt_9 : decode cX6_byteAt 9 = .ok (.if_icmp .ge 19, 3) := by decide +kernel
theorem dX6_byteAt_12 : decode cX6_byteAt 12 = .ok (.iload_n 1, 1) := by decide +kernel
theorem dX6_byteAt_13 : decode cX6_byteAt 13 = .ok (.sipush 740, 3) := by decide +kernel
theorem dX6_byteAt_16 : decode cX6_byteAt 16 = .ok (.if_icmp .ge 12, 3) := by decide +kernel
theorem dX6_byteAt_19 : decode cX6_byteAt 19 = .ok (.aload_n 0, 1) := by decide +kernel
theorem dX6_byteAt_20 : decode cX6_byteAt 20 = .ok (.getfield 9, 3) := by decide +kernel
theorem dX6_byteAt_23 : decode cX6_byteAt 23 = .ok (.iload_n 1, 1) := by decide +kernel
theorem dX6_byteAt_24 : decode cX6_byteAt 24 = .ok (.baload, 1) := by decide +kernel
theorem dX6_byteAt_25 : decode cX6_byteAt 25 = .ok (.goto 4, 3) := by decide +kernel
theorem dX6_byteAt_28 : decode cX6_byteAt 28 = .ok (.iconst 0, 1) := by decide +kernel
theorem dX6_byteAt_29 : decode cX6_byteAt 29 = .ok (.ireturn, 1) := by decide +kernel
theorem dX6_advance_0 : decode cX6_advance 0 = .ok (.aload_n 0, 1) := by decide +kernel
theorem dX6_advance_1 : decode cX6_advance 1 = .ok (.aload_n 0, 1) := by decide +kernel
theorem dX6_advance_2 : decode cX6_advance 2 = .ok (.getfield 19, 3) := by decide +kernel
theorem dX6_advance_5 : decode cX6_advance 5 = .ok (.putfield 25, 3) := by decide +kernel
theorem dX6_advance_8 : decode cX6_advance 8 = .ok (.aload_n 0, 1) := by decide +kernel
theorem dX6_advance_9 : decode cX6_advance 9 = .ok (.getfield 25, 3) := by decide +kernel
theorem dX6_advance_12 : decode cX6_advance 12 = .ok (.aload_n 0, 1) := by decide +kernel
theorem dX6_advance_13 : decode cX6_advance 13 = .ok (.getfield 15, 3) := by decide +kernel
theorem dX6_advance_16 : decode cX6_advance 16 = .ok (.if_icmp .ge 30, 3) := by decide +kernel
theorem dX6_advance_19 : decode cX6_advance 19 = .ok (.aload_n 0, 1) := by decide +kernel
theorem dX6_advance_20 : decode cX6_advance 20 = .ok (.aload_n 0, 1) := by decide +kernel
theorem dX6_advance_21 : decode cX6_advance 21 = .ok (.getfield 25, 3) := by decide +kernel
theorem dX6_advance_24 : decode cX6_advance 24 = .ok (.invokevirtual 28, 3) := by decide +kernel
theorem dX6_advance_27 : decode cX6_advance 27 = .ok (.invokestatic 32, 3) := by decide +kernel
theorem dX6_advance_30 : decode cX6_advance 30 = .ok (.ifCond .eq 16, 3) := by decide +kernel
theorem dX6_advance_33 : decode cX6_advance 33 = .ok (.aload_n 0, 1) := by decide +kernel
theorem dX6_advance_34 : decode cX6_advance 34 = .ok (.dup, 1) := by decide +kernel
theorem dX6_advance_35 : decode cX6_advance 35 = .ok (.getfield 25, 3) := by decide +kernel
theorem dX6_advance_38 : decode cX6_advance 38 = .ok (.iconst 1, 1) := by decide +kernel
theorem dX6_advance_39 : decode cX6_advance 39 = .ok (.iadd, 1) := by decide +kernel
theorem dX6_advance_40 : decode cX6_advance 40 = .ok (.putfield 25, 3) := by decide +kernel
theorem dX6_advance_43 : decode cX6_advance 43 = .ok (.goto (-35), 3) := by decide +kernel
theorem dX6_advance_46 : decode cX6_advance 46 = .ok (.aload_n 0, 1) := by decide +kernel
theorem dX6_advance_47 : decode cX6_advance 47 = .ok (.getfield 25, 3) := by decide +kernel
theorem dX6_advance_50 : decode cX6_advance 50 = .ok (.sipush 700, 3) := by decide +kernel
theorem dX6_advance_53 : decode cX6_advance 53 = .ok (.if_icmp .lt 28, 3) := by decide +kernel
theorem dX6_advance_56 : decode cX6_advance 56 = .ok (.aload_n 0, 1) := by decide +kernel
theorem dX6_advance_57 : decode cX6_advance 57 = .ok (.getfield 15, 3) := by decide +kernel
theorem dX6_advance_60 : decode cX6_advance 60 = .ok (.sipush 700, 3) := by decide +kernel
theorem dX6_advance_63 : decode cX6_advance 63 = .ok (.if_icmp .le 18, 3) := by decide +kernel
theorem dX6_advance_66 : decode cX6_advance 66 = .ok (.aload_n 0, 1) := by decide +kernel
theorem dX6_advance_67 : decode cX6_advance 67 = .ok (.sipush 700, 3) := by decide +kernel
theorem dX6_advance_70 : decode cX6_advance 70 = .ok (.putfield 25, 3) := by decide +kernel
theorem dX6_advance_73 : decode cX6_advance 73 = .ok (.aload_n 0, 1) := by decide +kernel
theorem dX6_advance_74 : decode cX6_advance 74 = .ok (.iconst 0, 1) := by decide +kernel
theorem dX6_advance_75 : decode cX6_advance 75 = .ok (.putfield 36, 3) := by decide +kernel
theorem dX6_advance_78 : decode cX6_advance 78 = .ok (.goto 26, 3) := by decide +kernel
theorem dX6_advance_81 : decode cX6_advance 81 = .ok (.aload_n 0, 1) := by decide +kernel
theorem dX6_advance_82 : decode cX6_advance 82 = .ok (.getfield 25, 3) := by decide +kernel
theorem dX6_advance_85 : decode cX6_advance 85 = .ok (.aload_n 0, 1) := by decide +kernel
theorem dX6_advance_86 : decode cX6_advance 86 = .ok (.getfield 15, 3) := by decide +kernel
theorem dX6_advance_89 : decode cX6_advance 89 = .ok (.if_icmp .lt 11, 3) := by decide +kernel
theorem dX6_advance_92 : decode cX6_advance 92 = .ok (.aload_n 0, 1) := by decide +kernel
theorem dX6_advance_93 : decode cX6_advance 93 = .ok (.iconst 4, 1) := by decide +kernel
theorem dX6_advance_94 : decode cX6_advance 94 = .ok (.putfield 36, 3) := by decide +kernel
theorem dX6_advance_97 : decode cX6_advance 97 = .ok (.goto 7, 3) := by decide +kernel
theorem dX6_advance_100 : decode cX6_advance 100 = .ok (.aload_n 0, 1) := by decide +kernel
theorem dX6_advance_101 : decode cX6_advance 101 = .ok (.invokevirtual 39, 3) := by decide +kernel
theorem dX6_advance_104 : decode cX6_advance 104 = .ok (.return_, 1) := by decide +kernel
theorem dX6_cutToken_0 : decode cX6_cutToken 0 = .ok (.aload_n 0, 1) := by decide +kernel
theorem dX6_cutToken_1 : decode cX6_cutToken 1 = .ok (.aload_n 0, 1) := by decide +kernel
theorem dX6_cutToken_2 : decode cX6_cutToken 2 = .ok (.getfield 25, 3) := by decide +kernel
theorem dX6_cutToken_5 : decode cX6_cutToken 5 = .ok (.invokevirtual 28, 3) := by decide +kernel
theorem dX6_cutToken_8 : decode cX6_cutToken 8 = .ok (.istore_n 1, 1) := by decide +kernel
theorem dX6_cutToken_9 : decode cX6_cutToken 9 = .ok (.aload_n 0, 1) := by decide +kernel
theorem dX6_cutToken_10 : decode cX6_cutToken 10 = .ok (.aload_n 0, 1) := by decide +kernel
theorem dX6_cutToken_11 : decode cX6_cutToken 11 = .ok (.getfield 25, 3) := by decide +kernel
theorem dX6_cutToken_14 : decode cX6_cutToken 14 = .ok (.iconst 1, 1) := by decide +kernel
theorem dX6_cutToken_15 : decode cX6_cutToken 15 = .ok (.iadd, 1) := by decide +kernel
theorem dX6_cutToken_16 : decode cX6_cutToken 16 = .ok (.putfield 19, 3) := by decide +kernel
theorem dX6_cutToken_19 : decode cX6_cutToken 19 = .ok (.iload_n 1, 1) := by decide +kernel
theorem dX6_cutToken_20 : decode cX6_cutToken 20 = .ok (.bipush 59, 2) := by decide +kernel
theorem dX6_cutToken_22 : decode cX6_cutToken 22 = .ok (.if_icmp .eq 15, 3) := by decide +kernel
theorem dX6_cutToken_25 : decode cX6_cutToken 25 = .ok (.iload_n 1, 1) := by decide +kernel
theorem dX6_cutToken_26 : decode cX6_cutToken 26 = .ok (.bipush 61, 2) := by decide +kernel
theorem dX6_cutToken_28 : decode cX6_cutToken 28 = .ok (.if_icmp .eq 9, 3) := by decide +kernel
theorem dX6_cutToken_31 : decode cX6_cutToken 31 = .ok (.iload_n 1, 1) := by decide +kernel
theorem dX6_cutToken_32 : decode cX6_cutToken 32 = .ok (.bipush 43, 2) := by decide +kernel
theorem dX6_cutToken_34 : decode cX6_cutToken 34 = .ok (.if_icmp .ne 9, 3) := by decide +kernel
theorem dX6_cutToken_37 : decode cX6_cutToken 37 = .ok (.aload_n 0, 1) := by decide +kernel
theorem dX6_cutToken_38 : decode cX6_cutToken 38 = .ok (.iconst 3, 1) := by decide +kernel
theorem dX6_cutToken_39 : decode cX6_cutToken 39 = .ok (.putfield 36, 3) := by decide +kernel
theorem dX6_cutToken_42 : decode cX6_cutToken 42 = .ok (.return_, 1) := by decide +kernel
theorem dX6_cutToken_43 : decode cX6_cutToken 43 = .ok (.iconst 0, 1) := by decide +kernel
theorem dX6_cutToken_44 : decode cX6_cutToken 44 = .ok (.istore_n 2, 1) := by decide +kernel
theorem dX6_cutToken_45 : decode cX6_cutToken 45 = .ok (.iconst 0, 1) := by decide +kernel
theorem dX6_cutToken_46 : decode cX6_cutToken 46 = .ok (.istore_n 3, 1) := by decide +kernel
theorem dX6_cutToken_47 : decode cX6_cutToken 47 = .ok (.aload_n 0, 1) := by decide +kernel
theorem dX6_cutToken_48 : decode cX6_cutToken 48 = .ok (.iconst 0, 1) := by decide +kernel
theorem dX6_cutToken_49 : decode cX6_cutToken 49 = .ok (.putfield 42, 3) := by decide +kernel
theorem dX6_cutToken_52 : decode cX6_cutToken 52 = .ok (.aload_n 0, 1) := by decide +kernel
theorem dX6_cutToken_53 : decode cX6_cutToken 53 = .ok (.getfield 25, 3) := by decide +kernel
theorem dX6_cutToken_56 : decode cX6_cutToken 56 = .ok (.istore 4, 2) := by decide +kernel
theorem dX6_cutToken_58 : decode cX6_cutToken 58 = .ok (.iload 4, 2) := by decide +kernel
theorem dX6_cutToken_60 : decode cX6_cutToken 60 = .ok (.aload_n 0, 1) := by decide +kernel
theorem dX6_cutToken_61 : decode cX6_cutToken 61 = .ok (.getfield 15, 3) := by decide +kernel
theorem dX6_cutToken_64 : decode cX6_cutToken 64 = .ok (.if_icmp .ge 71, 3) := by decide +kernel
theorem dX6_cutToken_67 : decode cX6_cutToken 67 = .ok (.aload_n 0, 1) := by decide +kernel
theorem dX6_cutToken_68 : decode cX6_cutToken 68 = .ok (.iload 4, 2) := by decide +kernel
theorem dX6_cutToken_70 : decode cX6_cutToken 70 = .ok (.invokevirtual 28, 3) := by decide +kernel
theorem dX6_cutToken_73 : decode cX6_cutToken 73 = .ok (.istore 5, 2) := by decide +kernel
theorem dX6_cutToken_75 : decode cX6_cutToken 75 = .ok (.iload 5, 2) := by decide +kernel
theorem dX6_cutToken_77 : decode cX6_cutToken 77 = .ok (.bipush 97, 2) := by decide +kernel
theorem dX6_cutToken_79 : decode cX6_cutToken 79 = .ok (.if_icmp .lt 16, 3) := by decide +kernel
theorem dX6_cutToken_82 : decode cX6_cutToken 82 = .ok (.iload 5, 2) := by decide +kernel
theorem dX6_cutToken_84 : decode cX6_cutToken 84 = .ok (.bipush 122, 2) := by decide +kernel
theorem dX6_cutToken_86 : decode cX6_cutToken 86 = .ok (.if_icmp .gt 9, 3) := by decide +kernel
theorem dX6_cutToken_89 : decode cX6_cutToken 89 = .ok (.iinc 2 1, 3) := by decide +kernel
theorem dX6_cutToken_92 : decode cX6_cutToken 92 = .ok (.goto 37, 3) := by decide +kernel
theorem dX6_cutToken_95 : decode cX6_cutToken 95 = .ok (.iload 5, 2) := by decide +kernel
theorem dX6_cutToken_97 : decode cX6_cutToken 97 = .ok (.bipush 48, 2) := by decide +kernel
theorem dX6_cutToken_99 : decode cX6_cutToken 99 = .ok (.if_icmp .lt 36, 3) := by decide +kernel
theorem dX6_cutToken_102 : decode cX6_cutToken 102 = .ok (.iload 5, 2) := by decide +kernel
theorem dX6_cutToken_104 : decode cX6_cutToken 104 = .ok (.bipush 57, 2) := by decide +kernel
theorem dX6_cutToken_106 : decode cX6_cutToken 106 = .ok (.if_icmp .gt 29, 3) := by decide +kernel
theorem dX6_cutToken_109 : decode cX6_cutToken 109 = .ok (.iinc 3 1, 3) := by decide +kernel
theorem dX6_cutToken_112 : decode cX6_cutToken 112 = .ok (.aload_n 0, 1) := by decide +kernel
theorem dX6_cutToken_113 : decode cX6_cutToken 113 = .ok (.aload_n 0, 1) := by decide +kernel
theorem dX6_cutToken_114 : decode cX6_cutToken 114 = .ok (.getfield 42, 3) := by decide +kernel
theorem dX6_cutToken_117 : decode cX6_cutToken 117 = .ok (.bipush 10, 2) := by decide +kernel
theorem dX6_cutToken_119 : decode cX6_cutToken 119 = .ok (.imul, 1) := by decide +kernel
theorem dX6_cutToken_120 : decode cX6_cutToken 120 = .ok (.iload 5, 2) := by decide +kernel
theorem dX6_cutToken_122 : decode cX6_cutToken 122 = .ok (.iadd, 1) := by decide +kernel
theorem dX6_cutToken_123 : decode cX6_cutToken 123 = .ok (.bipush 48, 2) := by decide +kernel
theorem dX6_cutToken_125 : decode cX6_cutToken 125 = .ok (.isub, 1) := by decide +kernel
theorem dX6_cutToken_126 : decode cX6_cutToken 126 = .ok (.putfield 42, 3) := by decide +kernel
theorem dX6_cutToken_129 : decode cX6_cutToken 129 = .ok (.iinc 4 1, 3) := by decide +kernel
theorem dX6_cutToken_132 : decode cX6_cutToken 132 = .ok (.goto (-74), 3) := by decide +kernel
theorem dX6_cutToken_135 : decode cX6_cutToken 135 = .ok (.aload_n 0, 1) := by decide +kernel
theorem dX6_cutToken_136 : decode cX6_cutToken 136 = .ok (.aload_n 0, 1) := by decide +kernel
theorem dX6_cutToken_137 : decode cX6_cutToken 137 = .ok (.getfield 19, 3) := by decide +kernel
theorem dX6_cutToken_140 : decode cX6_cutToken 140 = .ok (.aload_n 0, 1) := by decide +kernel
theorem dX6_cutToken_141 : decode cX6_cutToken 141 = .ok (.getfield 25, 3) := by decide +kernel
theorem dX6_cutToken_144 : decode cX6_cutToken 144 = .ok (.iload_n 2, 1) := by decide +kernel
theorem dX6_cutToken_145 : decode cX6_cutToken 145 = .ok (.iadd, 1) := by decide +kernel
theorem dX6_cutToken_146 : decode cX6_cutToken 146 = .ok (.iload_n 3, 1) := by decide +kernel
theorem dX6_cutToken_147 : decode cX6_cutToken 147 = .ok (.iadd, 1) := by decide +kernel
theorem dX6_cutToken_148 : decode cX6_cutToken 148 = .ok (.invokestatic 45, 3) := by decide +kernel
theorem dX6_cutToken_151 : decode cX6_cutToken 151 = .ok (.putfield 19, 3) := by decide +kernel
theorem dX6_cutToken_154 : decode cX6_cutToken 154 = .ok (.iload_n 3, 1) := by decide +kernel
theorem dX6_cutToken_155 : decode cX6_cutToken 155 = .ok (.ifCond .ne 18, 3) := by decide +kernel
theorem dX6_cutToken_158 : decode cX6_cutToken 158 = .ok (.iload_n 2, 1) := by decide +kernel
theorem dX6_cutToken_159 : decode cX6_cutToken 159 = .ok (.iconst 1, 1) := by decide +kernel
theorem dX6_cutToken_160 : decode cX6_cutToken 160 = .ok (.if_icmp .lt 13, 3) := by decide +kernel
theorem dX6_cutToken_163 : decode cX6_cutToken 163 = .ok (.iload_n 2, 1) := by decide +kernel
theorem dX6_cutToken_164 : decode cX6_cutToken 164 = .ok (.bipush 8, 2) := by decide +kernel
theorem dX6_cutToken_166 : decode cX6_cutToken 166 = .ok (.if_icmp .gt 7, 3) := by decide +kernel
theorem dX6_cutToken_169 : decode cX6_cutToken 169 = .ok (.iconst 1, 1) := by decide +kernel
theorem dX6_cutToken_170 : decode cX6_cutToken 170 = .ok (.goto 4, 3) := by decide +kernel
theorem dX6_cutToken_173 : decode cX6_cutToken 173 = .ok (.iconst 0, 1) := by decide +kernel
theorem dX6_cutToken_174 : decode cX6_cutToken 174 = .ok (.istore 4, 2) := by decide +kernel
theorem dX6_cutToken_176 : decode cX6_cutToken 176 = .ok (.iload_n 2, 1) := by decide +kernel
theorem dX6_cutToken_177 : decode cX6_cutToken 177 = .ok (.ifCond .ne 17, 3) := by decide +kernel
theorem dX6_cutToken_180 : decode cX6_cutToken 180 = .ok (.iload_n 3, 1) := by decide +kernel
theorem dX6_cutToken_181 : decode cX6_cutToken 181 = .ok (.iconst 1, 1) := by decide +kernel
theorem dX6_cutToken_182 : decode cX6_cutToken 182 = .ok (.if_icmp .lt 12, 3) := by decide +kernel
theorem dX6_cutToken_185 : decode cX6_cutToken 185 = .ok (.iload_n 3, 1) := by decide +kernel
theorem dX6_cutToken_186 : decode cX6_cutToken 186 = .ok (.iconst 4, 1) := by decide +kernel
theorem dX6_cutToken_187 : decode cX6_cutToken 187 = .ok (.if_icmp .gt 7, 3) := by decide +kernel
theorem dX6_cutToken_190 : decode cX6_cutToken 190 = .ok (.iconst 1, 1) := by decide +kernel
theorem dX6_cutToken_191 : decode cX6_cutToken 191 = .ok (.goto 4, 3) := by decide +kernel
theorem dX6_cutToken_194 : decode cX6_cutToken 194 = .ok (.iconst 0, 1) := by decide +kernel
theorem dX6_cutToken_195 : decode cX6_cutToken 195 = .ok (.istore 5, 2) := by decide +kernel
theorem dX6_cutToken_197 : decode cX6_cutToken 197 = .ok (.aload_n 0, 1) := by decide +kernel
theorem dX6_cutToken_198 : decode cX6_cutToken 198 = .ok (.iload 4, 2) := by decide +kernel
theorem dX6_cutToken_200 : decode cX6_cutToken 200 = .ok (.ifCond .eq 7, 3) := by decide +kernel
theorem dX6_cutToken_203 : decode cX6_cutToken 203 = .ok (.iconst 1, 1) := by decide +kernel
theorem dX6_cutToken_204 : decode cX6_cutToken 204 = .ok (.goto 13, 3) := by decide +kernel
theorem dX6_cutToken_207 : decode cX6_cutToken 207 = .ok (.iload 5, 2) := by decide +kernel
theorem dX6_cutToken_209 : decode cX6_cutToken 209 = .ok (.ifCond .eq 7, 3) := by decide +kernel
theorem dX6_cutToken_212 : decode cX6_cutToken 212 = .ok (.iconst 2, 1) := by decide +kernel
theorem dX6_cutToken_213 : decode cX6_cutToken 213 = .ok (.goto 4, 3) := by decide +kernel
theorem dX6_cutToken_216 : decode cX6_cutToken 216 = .ok (.iconst 0, 1) := by decide +kernel
theorem dX6_cutToken_217 : decode cX6_cutToken 217 = .ok (.putfield 36, 3) := by decide +kernel
theorem dX6_cutToken_220 : decode cX6_cutToken 220 = .ok (.return_, 1) := by decide +kernel
theorem dX6_isSign_0 : decode cX6_isSign 0 = .ok (.aload_n 0, 1) := by decide +kernel
theorem dX6_isSign_1 : decode cX6_isSign 1 = .ok (.getfield 36, 3) := by decide +kernel
theorem dX6_isSign_4 : decode cX6_isSign 4 = .ok (.iconst 3, 1) := by decide +kernel
theorem dX6_isSign_5 : decode cX6_isSign 5 = .ok (.if_icmp .ne 19, 3) := by decide +kernel
theorem dX6_isSign_8 : decode cX6_isSign 8 = .ok (.aload_n 0, 1) := by decide +kernel
theorem dX6_isSign_9 : decode cX6_isSign 9 = .ok (.aload_n 0, 1) := by decide +kernel
theorem dX6_isSign_10 : decode cX6_isSign 10 = .ok (.getfield 25, 3) := by decide +kernel
theorem dX6_isSign_13 : decode cX6_isSign 13 = .ok (.invokevirtual 28, 3) := by decide +kernel
theorem dX6_isSign_16 : decode cX6_isSign 16 = .ok (.iload_n 1, 1) := by decide +kernel
theorem dX6_isSign_17 : decode cX6_isSign 17 = .ok (.if_icmp .ne 7, 3) := by decide +kernel
theorem dX6_isSign_20 : decode cX6_isSign 20 = .ok (.iconst 1, 1) := by decide +kernel
theorem dX6_isSign_21 : decode cX6_isSign 21 = .ok (.goto 4, 3) := by decide +kernel
theorem dX6_isSign_24 : decode cX6_isSign 24 = .ok (.iconst 0, 1) := by decide +kernel
theorem dX6_isSign_25 : decode cX6_isSign 25 = .ok (.ireturn, 1) := by decide +kernel
theorem dX6_isWord_0 : decode cX6_isWord 0 = .ok (.aload_n 0, 1) := by decide +kernel
theorem dX6_isWord_1 : decode cX6_isWord 1 = .ok (.getfield 36, 3) := by decide +kernel
theorem dX6_isWord_4 : decode cX6_isWord 4 = .ok (.iconst 1, 1) := by decide +kernel
theorem dX6_isWord_5 : decode cX6_isWord 5 = .ok (.if_icmp .ne 19, 3) := by decide +kernel
theorem dX6_isWord_8 : decode cX6_isWord 8 = .ok (.aload_n 0, 1) := by decide +kernel
theorem dX6_isWord_9 : decode cX6_isWord 9 = .ok (.getfield 19, 3) := by decide +kernel
theorem dX6_isWord_12 : decode cX6_isWord 12 = .ok (.aload_n 0, 1) := by decide +kernel
theorem dX6_isWord_13 : decode cX6_isWord 13 = .ok (.getfield 25, 3) := by decide +kernel
theorem dX6_isWord_16 : decode cX6_isWord 16 = .ok (.isub, 1) := by decide +kernel
theorem dX6_isWord_17 : decode cX6_isWord 17 = .ok (.aload_n 1, 1) := by decide +kernel
theorem dX6_isWord_18 : decode cX6_isWord 18 = .ok (.invokevirtual 51, 3) := by decide +kernel
theorem dX6_isWord_21 : decode cX6_isWord 21 = .ok (.if_icmp .eq 5, 3) := by decide +kernel
theorem dX6_isWord_24 : decode cX6_isWord 24 = .ok (.iconst 0, 1) := by decide +kernel
theorem dX6_isWord_25 : decode cX6_isWord 25 = .ok (.ireturn, 1) := by decide +kernel
theorem dX6_isWord_26 : decode cX6_isWord 26 = .ok (.iconst 0, 1) := by decide +kernel
theorem dX6_isWord_27 : decode cX6_isWord 27 = .ok (.istore_n 2, 1) := by decide +kernel
theorem dX6_isWord_28 : decode cX6_isWord 28 = .ok (.iload_n 2, 1) := by decide +kernel
theorem dX6_isWord_29 : decode cX6_isWord 29 = .ok (.aload_n 1, 1) := by decide +kernel
theorem dX6_isWord_30 : decode cX6_isWord 30 = .ok (.invokevirtual 51, 3) := by decide +kernel
theorem dX6_isWord_33 : decode cX6_isWord 33 = .ok (.if_icmp .ge 29, 3) := by decide +kernel
theorem dX6_isWord_36 : decode cX6_isWord 36 = .ok (.aload_n 0, 1) := by decide +kernel
theorem dX6_isWord_37 : decode cX6_isWord 37 = .ok (.aload_n 0, 1) := by decide +kernel
theorem dX6_isWord_38 : decode cX6_isWord 38 = .ok (.getfield 25, 3) := by decide +kernel
theorem dX6_isWord_41 : decode cX6_isWord 41 = .ok (.iload_n 2, 1) := by decide +kernel
theorem dX6_isWord_42 : decode cX6_isWord 42 = .ok (.iadd, 1) := by decide +kernel
theorem dX6_isWord_43 : decode cX6_isWord 43 = .ok (.invokevirtual 28, 3) := by decide +kernel
theorem dX6_isWord_46 : decode cX6_isWord 46 = .ok (.aload_n 1, 1) := by decide +kernel
theorem dX6_isWord_47 : decode cX6_isWord 47 = .ok (.iload_n 2, 1) := by decide +kernel
theorem dX6_isWord_48 : decode cX6_isWord 48 = .ok (.invokevirtual 56, 3) := by decide +kernel
theorem dX6_isWord_51 : decode cX6_isWord 51 = .ok (.if_icmp .eq 5, 3) := by decide +kernel
theorem dX6_isWord_54 : decode cX6_isWord 54 = .ok (.iconst 0, 1) := by decide +kernel
theorem dX6_isWord_55 : decode cX6_isWord 55 = .ok (.ireturn, 1) := by decide +kernel
theorem dX6_isWord_56 : decode cX6_isWord 56 = .ok (.iinc 2 1, 3) := by decide +kernel
theorem dX6_isWord_59 : decode cX6_isWord 59 = .ok (.goto (-31), 3) := by decide +kernel
theorem dX6_isWord_62 : decode cX6_isWord 62 = .ok (.iconst 1, 1) := by decide +kernel
theorem dX6_isWord_63 : decode cX6_isWord 63 = .ok (.ireturn, 1) := by decide +kernel
theorem dX6_isSameAs_0 : decode cX6_isSameAs 0 = .ok (.aload_n 0, 1) := by decide +kernel
theorem dX6_isSameAs_1 : decode cX6_isSameAs 1 = .ok (.getfield 36, 3) := by decide +kernel
theorem dX6_isSameAs_4 : decode cX6_isSameAs 4 = .ok (.iconst 1, 1) := by decide +kernel
theorem dX6_isSameAs_5 : decode cX6_isSameAs 5 = .ok (.if_icmp .ne 16, 3) := by decide +kernel
theorem dX6_isSameAs_8 : decode cX6_isSameAs 8 = .ok (.aload_n 0, 1) := by decide +kernel
theorem dX6_isSameAs_9 : decode cX6_isSameAs 9 = .ok (.getfield 19, 3) := by decide +kernel
theorem dX6_isSameAs_12 : decode cX6_isSameAs 12 = .ok (.aload_n 0, 1) := by decide +kernel
theorem dX6_isSameAs_13 : decode cX6_isSameAs 13 = .ok (.getfield 25, 3) := by decide +kernel
theorem dX6_isSameAs_16 : decode cX6_isSameAs 16 = .ok (.isub, 1) := by decide +kernel
theorem dX6_isSameAs_17 : decode cX6_isSameAs 17 = .ok (.iload_n 2, 1) := by decide +kernel
theorem dX6_isSameAs_18 : decode cX6_isSameAs 18 = .ok (.if_icmp .eq 5, 3) := by decide +kernel
theorem dX6_isSameAs_21 : decode cX6_isSameAs 21 = .ok (.iconst 0, 1) := by decide +kernel
theorem dX6_isSameAs_22 : decode cX6_isSameAs 22 = .ok (.ireturn, 1) := by decide +kernel
theorem dX6_isSameAs_23 : decode cX6_isSameAs 23 = .ok (.iconst 0, 1) := by decide +kernel
theorem dX6_isSameAs_24 : decode cX6_isSameAs 24 = .ok (.istore_n 3, 1) := by decide +kernel
theorem dX6_isSameAs_25 : decode cX6_isSameAs 25 = .ok (.iload_n 3, 1) := by decide +kernel
theorem dX6_isSameAs_26 : decode cX6_isSameAs 26 = .ok (.iload_n 2, 1) := by decide +kernel
theorem dX6_isSameAs_27 : decode cX6_isSameAs 27 = .ok (.if_icmp .ge 31, 3) := by decide +kernel
theorem dX6_isSameAs_30 : decode cX6_isSameAs 30 = .ok (.aload_n 0, 1) := by decide +kernel
theorem dX6_isSameAs_31 : decode cX6_isSameAs 31 = .ok (.aload_n 0, 1) := by decide +kernel
theorem dX6_isSameAs_32 : decode cX6_isSameAs 32 = .ok (.getfield 25, 3) := by decide +kernel
theorem dX6_isSameAs_35 : decode cX6_isSameAs 35 = .ok (.iload_n 3, 1) := by decide +kernel
theorem dX6_isSameAs_36 : decode cX6_isSameAs 36 = .ok (.iadd, 1) := by decide +kernel
theorem dX6_isSameAs_37 : decode cX6_isSameAs 37 = .ok (.invokevirtual 28, 3) := by decide +kernel
theorem dX6_isSameAs_40 : decode cX6_isSameAs 40 = .ok (.aload_n 0, 1) := by decide +kernel
theorem dX6_isSameAs_41 : decode cX6_isSameAs 41 = .ok (.iload_n 1, 1) := by decide +kernel
theorem dX6_isSameAs_42 : decode cX6_isSameAs 42 = .ok (.iload_n 3, 1) := by decide +kernel
theorem dX6_isSameAs_43 : decode cX6_isSameAs 43 = .ok (.iadd, 1) := by decide +kernel
theorem dX6_isSameAs_44 : decode cX6_isSameAs 44 = .ok (.invokevirtual 28, 3) := by decide +kernel
theorem dX6_isSameAs_47 : decode cX6_isSameAs 47 = .ok (.if_icmp .eq 5, 3) := by decide +kernel
theorem dX6_isSameAs_50 : decode cX6_isSameAs 50 = .ok (.iconst 0, 1) := by decide +kernel
theorem dX6_isSameAs_51 : decode cX6_isSameAs 51 = .ok (.ireturn, 1) := by decide +kernel
theorem dX6_isSameAs_52 : decode cX6_isSameAs 52 = .ok (.iinc 3 1, 3) := by decide +kernel
theorem dX6_isSameAs_55 : decode cX6_isSameAs 55 = .ok (.goto (-30), 3) := by decide +kernel
theorem dX6_isSameAs_58 : decode cX6_isSameAs 58 = .ok (.iconst 1, 1) := by decide +kernel
theorem dX6_isSameAs_59 : decode cX6_isSameAs 59 = .ok (.ireturn, 1) := by decide +kernel
theorem dX6_isBlank_0 : decode cX6_isBlank 0 = .ok (.iload_n 0, 1) := by decide +kernel
theorem dX6_isBlank_1 : decode cX6_isBlank 1 = .ok (.bipush 32, 2) := by decide +kernel
theorem dX6_isBlank_3 : decode cX6_isBlank 3 = .ok (.if_icmp .eq 9, 3) := by decide +kernel
theorem dX6_isBlank_6 : decode cX6_isBlank 6 = .ok (.iload_n 0, 1) := by decide +kernel
theorem dX6_isBlank_7 : decode cX6_isBlank 7 = .ok (.bipush 10, 2) := by decide +kernel
theorem dX6_isBlank_9 : decode cX6_isBlank 9 = .ok (.if_icmp .ne 7, 3) := by decide +kernel
theorem dX6_isBlank_12 : decode cX6_isBlank 12 = .ok (.iconst 1, 1) := by decide +kernel
theorem dX6_isBlank_13 : decode cX6_isBlank 13 = .ok (.goto 4, 3) := by decide +kernel
theorem dX6_isBlank_16 : decode cX6_isBlank 16 = .ok (.iconst 0, 1) := by decide +kernel
theorem dX6_isBlank_17 : decode cX6_isBlank 17 = .ok (.ireturn, 1) := by decide +kernel
theorem dX7_init_0 : decode cX7_init 0 = .ok (.aload_n 0, 1) := by decide +kernel
theorem dX7_init_1 : decode cX7_init 1 = .ok (.invokespecial 3, 3) := by decide +kernel
theorem dX7_init_4 : decode cX7_init 4 = .ok (.aload_n 0, 1) := by decide +kernel
theorem dX7_init_5 : decode cX7_init 5 = .ok (.new 9, 3) := by decide +kernel
theorem dX7_init_8 : decode cX7_init 8 = .ok (.dup, 1) := by decide +kernel
theorem dX7_init_9 : decode cX7_init 9 = .ok (.invokespecial 11, 3) := by decide +kernel
theorem dX7_init_12 : decode cX7_init 12 = .ok (.putfield 12, 3) := by decide +kernel
theorem dX7_init_15 : decode cX7_init 15 = .ok (.aload_n 0, 1) := by decide +kernel
theorem dX7_init_16 : decode cX7_init 16 = .ok (.new 18, 3) := by decide +kernel
theorem dX7_init_19 : decode cX7_init 19 = .ok (.dup, 1) := by decide +kernel
theorem dX7_init_20 : decode cX7_init 20 = .ok (.invokespecial 20, 3) := by decide +kernel
theorem dX7_init_23 : decode cX7_init 23 = .ok (.putfield 21, 3) := by decide +kernel
theorem dX7_init_26 : decode cX7_init 26 = .ok (.aload_n 0, 1) := by decide +kernel
theorem dX7_init_27 : decode cX7_init 27 = .ok (.bipush 6, 2) := by decide +kernel
theorem dX7_init_29 : decode cX7_init 29 = .ok (.newarray .int, 2) := by decide +kernel
theorem dX7_init_31 : decode cX7_init 31 = .ok (.putfield 25, 3) := by decide +kernel
theorem dX7_init_34 : decode cX7_init 34 = .ok (.aload_n 0, 1) := by decide +kernel
theorem dX7_init_35 : decode cX7_init 35 = .ok (.bipush 6, 2) := by decide +kernel
theorem dX7_init_37 : decode cX7_init 37 = .ok (.newarray .int, 2) := by decide +kernel
theorem dX7_init_39 : decode cX7_init 39 = .ok (.putfield 29, 3) := by decide +kernel
theorem dX7_init_42 : decode cX7_init 42 = .ok (.return_, 1) := by decide +kernel
theorem dX7_readText_0 : decode cX7_readText 0 = .ok (.aload_n 0, 1) := by decide +kernel
theorem dX7_readText_1 : decode cX7_readText 1 = .ok (.getfield 21, 3) := by decide +kernel
theorem dX7_readText_4 : decode cX7_readText 4 = .ok (.invokevirtual 32, 3) := by decide +kernel
theorem dX7_readText_7 : decode cX7_readText 7 = .ok (.aload_n 0, 1) := by decide +kernel
theorem dX7_readText_8 : decode cX7_readText 8 = .ok (.iconst 0, 1) := by decide +kernel
theorem dX7_readText_9 : decode cX7_readText 9 = .ok (.putfield 35, 3) := by decide +kernel
theorem dX7_readText_12 : decode cX7_readText 12 = .ok (.aload_n 0, 1) := by decide +kernel
theorem dX7_readText_13 : decode cX7_readText 13 = .ok (.getfield 12, 3) := by decide +kernel
theorem dX7_readText_16 : decode cX7_readText 16 = .ok (.invokevirtual 39, 3) := by decide +kernel
theorem dX7_readText_19 : decode cX7_readText 19 = .ok (.iconst 0, 1) := by decide +kernel
theorem dX7_readText_20 : decode cX7_readText 20 = .ok (.istore_n 1, 1) := by decide +kernel
theorem dX7_readText_21 : decode cX7_readText 21 = .ok (.iload_n 1, 1) := by decide +kernel
theorem dX7_readText_22 : decode cX7_readText 22 = .ok (.bipush 13, 2) := by decide +kernel
theorem dX7_readText_24 : decode cX7_readText 24 = .ok (.if_icmp .gt 75, 3) := by decide +kernel
theorem dX7_readText_27 : decode cX7_readText 27 = .ok (.aload_n 0, 1) := by decide +kernel
theorem dX7_readText_28 : decode cX7_readText 28 = .ok (.getfield 12, 3) := by decide +kernel
theorem dX7_readText_31 : decode cX7_readText 31 = .ok (.getfield 42, 3) := by decide +kernel
theorem dX7_readText_34 : decode cX7_readText 34 = .ok (.iconst 4, 1) := by decide +kernel
theorem dX7_readText_35 : decode cX7_readText 35 = .ok (.if_icmp .ne 5, 3) := by decide +kernel
theorem dX7_readText_38 : decode cX7_readText 38 = .ok (.iload_n 1, 1) := by decide +kernel
theorem dX7_readText_39 : decode cX7_readText 39 = .ok (.ireturn, 1) := by decide +kernel
theorem dX7_readText_40 : decode cX7_readText 40 = .ok (.iload_n 1, 1) := by decide +kernel
theorem dX7_readText_41 : decode cX7_readText 41 = .ok (.ifCond .ne 11, 3) := by decide +kernel
theorem dX7_readText_44 : decode cX7_readText 44 = .ok (.aload_n 0, 1) := by decide +kernel
theorem dX7_readText_45 : decode cX7_readText 45 = .ok (.invokevirtual 45, 3) := by decide +kernel
theorem dX7_readText_48 : decode cX7_readText 48 = .ok (.istore_n 2, 1) := by decide +kernel
theorem dX7_readText_49 : decode cX7_readText 49 = .ok (.goto 28, 3) := by decide +kernel
theorem dX7_readText_52 : decode cX7_readText 52 = .ok (.aload_n 0, 1) := by decide +kernel
theorem dX7_readText_53 : decode cX7_readText 53 = .ok (.getfield 12, 3) := by decide +kernel
theorem dX7_readText_56 : decode cX7_readText 56 = .ok (.ldc 49, 2) := by decide +kernel
theorem dX7_readText_58 : decode cX7_readText 58 = .ok (.invokevirtual 51, 3) := by decide +kernel
theorem dX7_readText_61 : decode cX7_readText 61 = .ok (.ifCond .eq 11, 3) := by decide +kernel
theorem dX7_readText_64 : decode cX7_readText 64 = .ok (.aload_n 0, 1) := by decide +kernel
theorem dX7_readText_65 : decode cX7_readText 65 = .ok (.invokevirtual 55, 3) := by decide +kernel
theorem dX7_readText_68 : decode cX7_readText 68 = .ok (.istore_n 2, 1) := by decide +kernel
theorem dX7_readText_69 : decode cX7_readText 69 = .ok (.goto 8, 3) := by decide +kernel
theorem dX7_readText_72 : decode cX7_readText 72 = .ok (.aload_n 0, 1) := by decide +kernel
theorem dX7_readText_73 : decode cX7_readText 73 = .ok (.invokevirtual 58, 3) := by decide +kernel
theorem dX7_readText_76 : decode cX7_readText 76 = .ok (.istore_n 2, 1) := by decide +kernel
theorem dX7_readText_77 : decode cX7_readText 77 = .ok (.iload_n 2, 1) := by decide +kernel
theorem dX7_readText_78 : decode cX7_readText 78 = .ok (.ifCond .eq 21, 3) := by decide +kernel
theorem dX7_readText_81 : decode cX7_readText 81 = .ok (.aload_n 0, 1) := by decide +kernel
theorem dX7_readText_82 : decode cX7_readText 82 = .ok (.bipush 59, 2) := by decide +kernel
theorem dX7_readText_84 : decode cX7_readText 84 = .ok (.invokevirtual 61, 3) := by decide +kernel
theorem dX7_readText_87 : decode cX7_readText 87 = .ok (.ifCond .ne 6, 3) := by decide +kernel
theorem dX7_readText_90 : decode cX7_readText 90 = .ok (.goto 9, 3) := by decide +kernel
theorem dX7_readText_93 : decode cX7_readText 93 = .ok (.iinc 1 1, 3) := by decide +kernel
theorem dX7_readText_96 : decode cX7_readText 96 = .ok (.goto (-75), 3) := by decide +kernel
theorem dX7_readText_99 : decode cX7_readText 99 = .ok (.iconst (-1), 1) := by decide +kernel
theorem dX7_readText_100 : decode cX7_readText 100 = .ok (.aload_n 0, 1) := by decide +kernel
theorem dX7_readText_101 : decode cX7_readText 101 = .ok (.getfield 12, 3) := by decide +kernel
theorem dX7_readText_104 : decode cX7_readText 104 = .ok (.getfield 65, 3) := by decide +kernel
theorem dX7_readText_107 : decode cX7_readText 107 = .ok (.isub, 1) := by decide +kernel
theorem dX7_readText_108 : decode cX7_readText 108 = .ok (.ireturn, 1) := by decide +kernel
theorem dX7_exchangeBook_0 : decode cX7_exchangeBook 0 = .ok (.aload_n 0, 1) := by decide +kernel
theorem dX7_exchangeBook_1 : decode cX7_exchangeBook 1 = .ok (.getfield 21, 3) := by decide +kernel
theorem dX7_exchangeBook_4 : decode cX7_exchangeBook 4 = .ok (.astore_n 2, 1) := by decide +kernel
theorem dX7_exchangeBook_5 : decode cX7_exchangeBook 5 = .ok (.aload_n 0, 1) := by decide +kernel
theorem dX7_exchangeBook_6 : decode cX7_exchangeBook 6 = .ok (.aload_n 1, 1) := by decide +kernel
theorem dX7_exchangeBook_7 : decode cX7_exchangeBook 7 = .ok (.putfield 21, 3) := by decide +kernel
theorem dX7_exchangeBook_10 : decode cX7_exchangeBook 10 = .ok (.aload_n 2, 1) := by decide +kernel
theorem dX7_exchangeBook_11 : decode cX7_exchangeBook 11 = .ok (.areturn, 1) := by decide +kernel
theorem dX7_refuse_0 : decode cX7_refuse 0 = .ok (.aload_n 0, 1) := by decide +kernel
theorem dX7_refuse_1 : decode cX7_refuse 1 = .ok (.iload_n 1, 1) := by decide +kernel
theorem dX7_refuse_2 : decode cX7_refuse 2 = .ok (.putfield 35, 3) := by decide +kernel
theorem dX7_refuse_5 : decode cX7_refuse 5 = .ok (.iconst 0, 1) := by decide +kernel
theorem dX7_refuse_6 : decode cX7_refuse 6 = .ok (.ireturn, 1) := by decide +kernel
theorem dX7_readNow_0 : decode cX7_readNow 0 = .ok (.aload_n 0, 1) := by decide +kernel
theorem dX7_readNow_1 : decode cX7_readNow 1 = .ok (.ldc 68, 2) := by decide +kernel
theorem dX7_readNow_3 : decode cX7_readNow 3 = .ok (.invokevirtual 70, 3) := by decide +kernel
theorem dX7_readNow_6 : decode cX7_readNow 6 = .ok (.ifCond .eq 13, 3) := by decide +kernel
theorem dX7_readNow_9 : decode cX7_readNow 9 = .ok (.aload_n 0, 1) := by decide +kernel
theorem dX7_readNow_10 : decode cX7_readNow 10 = .ok (.iconst 0, 1) := by decide +kernel
theorem dX7_readNow_11 : decode cX7_readNow 11 = .ok (.bipush 35, 2) := by decide +kernel
theorem dX7_readNow_13 : decode cX7_readNow 13 = .ok (.invokevirtual 73, 3) := by decide +kernel
theorem dX7_readNow_16 : decode cX7_readNow 16 = .ok (.ifCond .ne 5, 3) := by decide +kernel
theorem dX7_readNow_19 : decode cX7_readNow 19 = .ok (.iconst 0, 1) := by decide +kernel
theorem dX7_readNow_20 : decode cX7_readNow 20 = .ok (.ireturn, 1) := by decide +kernel
theorem dX7_readNow_21 : decode cX7_readNow 21 = .ok (.aload_n 0, 1) := by decide +kernel
theorem dX7_readNow_22 : decode cX7_readNow 22 = .ok (.getfield 21, 3) := by decide +kernel
theorem dX7_readNow_25 : decode cX7_readNow 25 = .ok (.aload_n 0, 1) := by decide +kernel
theorem dX7_readNow_26 : decode cX7_readNow 26 = .ok (.getfield 77, 3) := by decide +kernel
theorem dX7_readNow_29 : decode cX7_readNow 29 = .ok (.putfield 80, 3) := by decide +kernel
theorem dX7_readNow_32 : decode cX7_readNow 32 = .ok (.iconst 1, 1) := by decide +kernel
theorem dX7_readNow_33 : decode cX7_readNow 33 = .ok (.ireturn, 1) := by decide +kernel
theorem dX7_readIndex_0 : decode cX7_readIndex 0 = .ok (.aload_n 0, 1) := by decide +kernel
theorem dX7_readIndex_1 : decode cX7_readIndex 1 = .ok (.getfield 12, 3) := by decide +kernel
theorem dX7_readIndex_4 : decode cX7_readIndex 4 = .ok (.ldc 83, 2) := by decide +kernel
theorem dX7_readIndex_6 : decode cX7_readIndex 6 = .ok (.invokevirtual 51, 3) := by decide +kernel
theorem dX7_readIndex_9 : decode cX7_readIndex 9 = .ok (.ifCond .ne 9, 3) := by decide +kernel
theorem dX7_readIndex_12 : decode cX7_readIndex 12 = .ok (.aload_n 0, 1) := by decide +kernel
theorem dX7_readIndex_13 : decode cX7_readIndex 13 = .ok (.iconst 1, 1) := by decide +kernel
theorem dX7_readIndex_14 : decode cX7_readIndex 14 = .ok (.invokevirtual 85, 3) := by decide +kernel
theorem dX7_readIndex_17 : decode cX7_readIndex 17 = .ok (.ireturn, 1) := by decide +kernel
theorem dX7_readIndex_18 : decode cX7_readIndex 18 = .ok (.aload_n 0, 1) := by decide +kernel
theorem dX7_readIndex_19 : decode cX7_readIndex 19 = .ok (.getfield 21, 3) := by decide +kernel
theorem dX7_readIndex_22 : decode cX7_readIndex 22 = .ok (.getfield 89, 3) := by decide +kernel
theorem dX7_readIndex_25 : decode cX7_readIndex 25 = .ok (.istore_n 1, 1) := by decide +kernel
theorem dX7_readIndex_26 : decode cX7_readIndex 26 = .ok (.aload_n 0, 1) := by decide +kernel
theorem dX7_readIndex_27 : decode cX7_readIndex 27 = .ok (.getfield 21, 3) := by decide +kernel
theorem dX7_readIndex_30 : decode cX7_readIndex 30 = .ok (.invokevirtual 92, 3) := by decide +kernel
theorem dX7_readIndex_33 : decode cX7_readIndex 33 = .ok (.astore_n 2, 1) := by decide +kernel
theorem dX7_readIndex_34 : decode cX7_readIndex 34 = .ok (.aload_n 2, 1) := by decide +kernel
theorem dX7_readIndex_35 : decode cX7_readIndex 35 = .ok (.ifnonnull 9, 3) := by decide +kernel
theorem dX7_readIndex_38 : decode cX7_readIndex 38 = .ok (.aload_n 0, 1) := by decide +kernel
theorem dX7_readIndex_39 : decode cX7_readIndex 39 = .ok (.iconst 4, 1) := by decide +kernel
theorem dX7_readIndex_40 : decode cX7_readIndex 40 = .ok (.invokevirtual 85, 3) := by decide +kernel
theorem dX7_readIndex_43 : decode cX7_readIndex 43 = .ok (.ireturn, 1) := by decide +kernel
theorem dX7_readIndex_44 : decode cX7_readIndex 44 = .ok (.aload_n 0, 1) := by decide +kernel
theorem dX7_readIndex_45 : decode cX7_readIndex 45 = .ok (.getfield 12, 3) := by decide +kernel
theorem dX7_readIndex_48 : decode cX7_readIndex 48 = .ok (.invokevirtual 96, 3) := by decide +kernel
theorem dX7_readIndex_51 : decode cX7_readIndex 51 = .ok (.aload_n 0, 1) := by decide +kernel
theorem dX7_readIndex_52 : decode cX7_readIndex 52 = .ok (.invokevirtual 99, 3) := by decide +kernel
theorem dX7_readIndex_55 : decode cX7_readIndex 55 = .ok (.ifCond .ne 9, 3) := by decide +kernel
theorem dX7_readIndex_58 : decode cX7_readIndex 58 = .ok (.aload_n 0, 1) := by decide +kernel
theorem dX7_readIndex_59 : decode cX7_readIndex 59 = .ok (.iconst 1, 1) := by decide +kernel
theorem dX7_readIndex_60 : decode cX7_readIndex 60 = .ok (.invokevirtual 85, 3) := by decide +kernel
theorem dX7_readIndex_63 : decode cX7_readIndex 63 = .ok (.ireturn, 1) := by decide +kernel
theorem dX7_readIndex_64 : decode cX7_readIndex 64 = .ok (.aload_n 0, 1) := by decide +kernel
theorem dX7_readIndex_65 : decode cX7_readIndex 65 = .ok (.iload_n 1, 1) := by decide +kernel
theorem dX7_readIndex_66 : decode cX7_readIndex 66 = .ok (.invokevirtual 102, 3) := by decide +kernel
theorem dX7_readIndex_69 : decode cX7_readIndex 69 = .ok (.iconst (-1), 1) := by decide +kernel
theorem dX7_readIndex_70 : decode cX7_readIndex 70 = .ok (.if_icmp .eq 9, 3) := by decide +kernel
theorem dX7_readIndex_73 : decode cX7_readIndex 73 = .ok (.aload_n 0, 1) := by decide +kernel
theorem dX7_readIndex_74 : decode cX7_readIndex 74 = .ok (.iconst 3, 1) := by decide +kernel
theorem dX7_readIndex_75 : decode cX7_readIndex 75 = .ok (.invokevirtual 85, 3) := by decide +kernel
theorem dX7_readIndex_78 : decode cX7_readIndex 78 = .ok (.ireturn, 1) := by decide +kernel
theorem dX7_readIndex_79 : decode cX7_readIndex 79 = .ok (.aload_n 0, 1) := by decide +kernel
theorem dX7_readIndex_80 : decode cX7_readIndex 80 = .ok (.iload_n 1, 1) := by decide +kernel
theorem dX7_readIndex_81 : decode cX7_readIndex 81 = .ok (.invokevirtual 106, 3) := by decide +kernel
theorem dX7_readIndex_84 : decode cX7_readIndex 84 = .ok (.aload_n 0, 1) := by decide +kernel
theorem dX7_readIndex_85 : decode cX7_readIndex 85 = .ok (.getfield 12, 3) := by decide +kernel
theorem dX7_readIndex_88 : decode cX7_readIndex 88 = .ok (.invokevirtual 96, 3) := by decide +kernel
theorem dX7_readIndex_91 : decode cX7_readIndex 91 = .ok (.aload_n 0, 1) := by decide +kernel
theorem dX7_readIndex_92 : decode cX7_readIndex 92 = .ok (.aload_n 2, 1) := by decide +kernel
theorem dX7_readIndex_93 : decode cX7_readIndex 93 = .ok (.invokevirtual 110, 3) := by decide +kernel
theorem dX7_readIndex_96 : decode cX7_readIndex 96 = .ok (.ireturn, 1) := by decide +kernel
