section
-- ===== PART A: goes FIRST, ahead of the names: the tables' words, and 'selects' of the private methods out of them =====
/-- a private method of a class that the tables say can be made, by its rows of tables_1 -/
def lw_okq (q : MethodName × Nat) : Prop := (q.1.cls ≠ "java/lang/invoke/MethodHandle" ∧ q.1.cls ≠ "java/lang/invoke/VarHandle") ∧ Cond.instantiable q.1.cls q.2 ∈ tables_1 ∧ Cond.privateMethod q.1 ∈ tables_1 ∧ Cond.instanceMethod q.1 ∈ tables_1
theorem lw_p0 : lw_okq (⟨"PriceDesk$Tape", "cutToken", "()V"⟩, 6) := ⟨⟨by decide +kernel, by decide +kernel⟩, List.mem_of_getElem? (i := 35) (by decide +kernel), List.mem_of_getElem? (i := 347) (by decide +kernel), List.mem_of_getElem? (i := 348) (by decide +kernel)⟩
theorem lw_p1 : lw_okq (⟨"PriceDesk$TextReader", "readNow", "()Z"⟩, 6) := ⟨⟨by decide +kernel, by decide +kernel⟩, List.mem_of_getElem? (i := 29) (by decide +kernel), List.mem_of_getElem? (i := 354) (by decide +kernel), List.mem_of_getElem? (i := 355) (by decide +kernel)⟩
theorem lw_p2 : lw_okq (⟨"PriceDesk$TextReader", "readWord", "(Ljava/lang/String;)Z"⟩, 6) := ⟨⟨by decide +kernel, by decide +kernel⟩, List.mem_of_getElem? (i := 29) (by decide +kernel), List.mem_of_getElem? (i := 359) (by decide +kernel), List.mem_of_getElem? (i := 360) (by decide +kernel)⟩
theorem lw_p3 : lw_okq (⟨"PriceDesk$TextReader", "refuse", "(I)Z"⟩, 6) := ⟨⟨by decide +kernel, by decide +kernel⟩, List.mem_of_getElem? (i := 29) (by decide +kernel), List.mem_of_getElem? (i := 415) (by decide +kernel), List.mem_of_getElem? (i := 416) (by decide +kernel)⟩
theorem lw_p4 : lw_okq (⟨"PriceDesk$TextReader", "readNumber", "(II)Z"⟩, 6) := ⟨⟨by decide +kernel, by decide +kernel⟩, List.mem_of_getElem? (i := 29) (by decide +kernel), List.mem_of_getElem? (i := 420) (by decide +kernel), List.mem_of_getElem? (i := 421) (by decide +kernel)⟩
theorem lw_p5 : lw_okq (⟨"PriceDesk$TextReader", "isNumber", "(II)Z"⟩, 6) := ⟨⟨by decide +kernel, by decide +kernel⟩, List.mem_of_getElem? (i := 29) (by decide +kernel), List.mem_of_getElem? (i := 424) (by decide +kernel), List.mem_of_getElem? (i := 425) (by decide +kernel)⟩
theorem lw_p6 : lw_okq (⟨"PriceDesk$TextReader", "readContract", "()Z"⟩, 6) := ⟨⟨by decide +kernel, by decide +kernel⟩, List.mem_of_getElem? (i := 29) (by decide +kernel), List.mem_of_getElem? (i := 429) (by decide +kernel), List.mem_of_getElem? (i := 430) (by decide +kernel)⟩
theorem lw_p7 : lw_okq (⟨"PriceDesk$TextReader", "readSign", "(C)Z"⟩, 6) := ⟨⟨by decide +kernel, by decide +kernel⟩, List.mem_of_getElem? (i := 29) (by decide +kernel), List.mem_of_getElem? (i := 437) (by decide +kernel), List.mem_of_getElem? (i := 438) (by decide +kernel)⟩
theorem lw_p8 : lw_okq (⟨"PriceDesk$TextReader", "readTerms", "(LPriceDesk$Contract;)Z"⟩, 6) := ⟨⟨by decide +kernel, by decide +kernel⟩, List.mem_of_getElem? (i := 29) (by decide +kernel), List.mem_of_getElem? (i := 445) (by decide +kernel), List.mem_of_getElem? (i := 446) (by decide +kernel)⟩
theorem lw_p9 : lw_okq (⟨"PriceDesk$TextReader", "isName", "()Z"⟩, 6) := ⟨⟨by decide +kernel, by decide +kernel⟩, List.mem_of_getElem? (i := 29) (by decide +kernel), List.mem_of_getElem? (i := 449) (by decide +kernel), List.mem_of_getElem? (i := 450) (by decide +kernel)⟩
theorem lw_p10 : lw_okq (⟨"PriceDesk$TextReader", "indexNamed", "(I)I"⟩, 6) := ⟨⟨by decide +kernel, by decide +kernel⟩, List.mem_of_getElem? (i := 29) (by decide +kernel), List.mem_of_getElem? (i := 458) (by decide +kernel), List.mem_of_getElem? (i := 459) (by decide +kernel)⟩
theorem lw_p11 : lw_okq (⟨"PriceDesk$TextReader", "readBase", "(LPriceDesk$Contract;)Z"⟩, 6) := ⟨⟨by decide +kernel, by decide +kernel⟩, List.mem_of_getElem? (i := 29) (by decide +kernel), List.mem_of_getElem? (i := 474) (by decide +kernel), List.mem_of_getElem? (i := 475) (by decide +kernel)⟩
theorem lw_p12 : lw_okq (⟨"PriceDesk$TextReader", "readRule", "(LPriceDesk$Contract;)Z"⟩, 6) := ⟨⟨by decide +kernel, by decide +kernel⟩, List.mem_of_getElem? (i := 29) (by decide +kernel), List.mem_of_getElem? (i := 497) (by decide +kernel), List.mem_of_getElem? (i := 498) (by decide +kernel)⟩
theorem lw_p13 : lw_okq (⟨"PriceDesk$TextReader", "readIndex", "()Z"⟩, 6) := ⟨⟨by decide +kernel, by decide +kernel⟩, List.mem_of_getElem? (i := 29) (by decide +kernel), List.mem_of_getElem? (i := 501) (by decide +kernel), List.mem_of_getElem? (i := 502) (by decide +kernel)⟩
theorem lw_p14 : lw_okq (⟨"PriceDesk$TextReader", "keepName", "(I)V"⟩, 6) := ⟨⟨by decide +kernel, by decide +kernel⟩, List.mem_of_getElem? (i := 29) (by decide +kernel), List.mem_of_getElem? (i := 513) (by decide +kernel), List.mem_of_getElem? (i := 514) (by decide +kernel)⟩
theorem lw_p15 : lw_okq (⟨"PriceDesk$TextReader", "readValues", "(LPriceDesk$Index;)Z"⟩, 6) := ⟨⟨by decide +kernel, by decide +kernel⟩, List.mem_of_getElem? (i := 29) (by decide +kernel), List.mem_of_getElem? (i := 517) (by decide +kernel), List.mem_of_getElem? (i := 518) (by decide +kernel)⟩
def lw_privs_1 : List (MethodName × Nat) := [(⟨"PriceDesk$Tape", "cutToken", "()V"⟩, 6), (⟨"PriceDesk$TextReader", "readNow", "()Z"⟩, 6), (⟨"PriceDesk$TextReader", "readWord", "(Ljava/lang/String;)Z"⟩, 6), (⟨"PriceDesk$TextReader", "refuse", "(I)Z"⟩, 6), (⟨"PriceDesk$TextReader", "readNumber", "(II)Z"⟩, 6), (⟨"PriceDesk$TextReader", "isNumber", "(II)Z"⟩, 6), (⟨"PriceDesk$TextReader", "readContract", "()Z"⟩, 6), (⟨"PriceDesk$TextReader", "readSign", "(C)Z"⟩, 6), (⟨"PriceDesk$TextReader", "readTerms", "(LPriceDesk$Contract;)Z"⟩, 6), (⟨"PriceDesk$TextReader", "isName", "()Z"⟩, 6), (⟨"PriceDesk$TextReader", "indexNamed", "(I)I"⟩, 6), (⟨"PriceDesk$TextReader", "readBase", "(LPriceDesk$Contract;)Z"⟩, 6), (⟨"PriceDesk$TextReader", "readRule", "(LPriceDesk$Contract;)Z"⟩, 6), (⟨"PriceDesk$TextReader", "readIndex", "()Z"⟩, 6), (⟨"PriceDesk$TextReader", "keepName", "(I)V"⟩, 6), (⟨"PriceDesk$TextReader", "readValues", "(LPriceDesk$Index;)Z"⟩, 6)]
theorem lw_r1 : ∀ q ∈ lw_privs_1, lw_okq q := List.forall_mem_cons.mpr ⟨lw_p0, List.forall_mem_cons.mpr ⟨lw_p1, List.forall_mem_cons.mpr ⟨lw_p2, List.forall_mem_cons.mpr ⟨lw_p3, List.forall_mem_cons.mpr ⟨lw_p4, List.forall_mem_cons.mpr ⟨lw_p5, List.forall_mem_cons.mpr ⟨lw_p6, List.forall_mem_cons.mpr ⟨lw_p7, List.forall_mem_cons.mpr ⟨lw_p8, List.forall_mem_cons.mpr ⟨lw_p9, List.forall_mem_cons.mpr ⟨lw_p10, List.forall_mem_cons.mpr ⟨lw_p11, List.forall_mem_cons.mpr ⟨lw_p12, List.forall_mem_cons.mpr ⟨lw_p13, List.forall_mem_cons.mpr ⟨lw_p14, List.forall_mem_cons.mpr ⟨lw_p15, fun _ h => absurd h List.not_mem_nil⟩⟩⟩⟩⟩⟩⟩⟩⟩⟩⟩⟩⟩⟩⟩⟩
theorem lw_p16 : lw_okq (⟨"PriceDesk$TextReader", "readValue", "(LPriceDesk$Index;I)Z"⟩, 6) := ⟨⟨by decide +kernel, by decide +kernel⟩, List.mem_of_getElem? (i := 29) (by decide +kernel), List.mem_of_getElem? (i := 521) (by decide +kernel), List.mem_of_getElem? (i := 522) (by decide +kernel)⟩
theorem lw_p17 : lw_okq (⟨"PriceDesk", "takeBackValue", "(I)V"⟩, 4) := ⟨⟨by decide +kernel, by decide +kernel⟩, List.mem_of_getElem? (i := 21) (by decide +kernel), List.mem_of_getElem? (i := 739) (by decide +kernel), List.mem_of_getElem? (i := 740) (by decide +kernel)⟩
theorem lw_p18 : lw_okq (⟨"PriceDesk", "takeBackRebasing", "(I)V"⟩, 4) := ⟨⟨by decide +kernel, by decide +kernel⟩, List.mem_of_getElem? (i := 21) (by decide +kernel), List.mem_of_getElem? (i := 743) (by decide +kernel), List.mem_of_getElem? (i := 744) (by decide +kernel)⟩
theorem lw_p19 : lw_okq (⟨"PriceDesk", "takeBackClose", "()V"⟩, 4) := ⟨⟨by decide +kernel, by decide +kernel⟩, List.mem_of_getElem? (i := 21) (by decide +kernel), List.mem_of_getElem? (i := 751) (by decide +kernel), List.mem_of_getElem? (i := 752) (by decide +kernel)⟩
theorem lw_p20 : lw_okq (⟨"java/lang/Throwable", "fillInStackTrace", "(I)Ljava/lang/Throwable;"⟩, 6) := ⟨⟨by decide +kernel, by decide +kernel⟩, List.mem_of_getElem? (i := 805) (by decide +kernel), List.mem_of_getElem? (i := 803) (by decide +kernel), List.mem_of_getElem? (i := 804) (by decide +kernel)⟩
theorem lw_p21 : lw_okq (⟨"PriceDeskModel", "lays", "(I)V"⟩, 17) := ⟨⟨by decide +kernel, by decide +kernel⟩, List.mem_of_getElem? (i := 875) (by decide +kernel), List.mem_of_getElem? (i := 873) (by decide +kernel), List.mem_of_getElem? (i := 874) (by decide +kernel)⟩
theorem lw_p22 : lw_okq (⟨"PriceDeskModel", "go", "()V"⟩, 17) := ⟨⟨by decide +kernel, by decide +kernel⟩, List.mem_of_getElem? (i := 875) (by decide +kernel), List.mem_of_getElem? (i := 944) (by decide +kernel), List.mem_of_getElem? (i := 945) (by decide +kernel)⟩
theorem lw_p23 : lw_okq (⟨"PriceDeskModel", "tapeAt", "(I)I"⟩, 17) := ⟨⟨by decide +kernel, by decide +kernel⟩, List.mem_of_getElem? (i := 875) (by decide +kernel), List.mem_of_getElem? (i := 954) (by decide +kernel), List.mem_of_getElem? (i := 955) (by decide +kernel)⟩
theorem lw_p24 : lw_okq (⟨"PriceDeskModel", "readLine", "(Z)Z"⟩, 17) := ⟨⟨by decide +kernel, by decide +kernel⟩, List.mem_of_getElem? (i := 875) (by decide +kernel), List.mem_of_getElem? (i := 960) (by decide +kernel), List.mem_of_getElem? (i := 961) (by decide +kernel)⟩
theorem lw_p25 : lw_okq (⟨"PriceDeskModel", "is", "(I)Z"⟩, 17) := ⟨⟨by decide +kernel, by decide +kernel⟩, List.mem_of_getElem? (i := 875) (by decide +kernel), List.mem_of_getElem? (i := 964) (by decide +kernel), List.mem_of_getElem? (i := 965) (by decide +kernel)⟩
theorem lw_p26 : lw_okq (⟨"PriceDeskModel", "bad", "(I)Z"⟩, 17) := ⟨⟨by decide +kernel, by decide +kernel⟩, List.mem_of_getElem? (i := 875) (by decide +kernel), List.mem_of_getElem? (i := 982) (by decide +kernel), List.mem_of_getElem? (i := 983) (by decide +kernel)⟩
theorem lw_p27 : lw_okq (⟨"PriceDeskModel", "told", "(III)Z"⟩, 17) := ⟨⟨by decide +kernel, by decide +kernel⟩, List.mem_of_getElem? (i := 875) (by decide +kernel), List.mem_of_getElem? (i := 986) (by decide +kernel), List.mem_of_getElem? (i := 987) (by decide +kernel)⟩
theorem lw_p28 : lw_okq (⟨"PriceDeskModel", "readIndex", "()Z"⟩, 17) := ⟨⟨by decide +kernel, by decide +kernel⟩, List.mem_of_getElem? (i := 875) (by decide +kernel), List.mem_of_getElem? (i := 993) (by decide +kernel), List.mem_of_getElem? (i := 994) (by decide +kernel)⟩
theorem lw_p29 : lw_okq (⟨"PriceDeskModel", "isName", "()Z"⟩, 17) := ⟨⟨by decide +kernel, by decide +kernel⟩, List.mem_of_getElem? (i := 875) (by decide +kernel), List.mem_of_getElem? (i := 997) (by decide +kernel), List.mem_of_getElem? (i := 998) (by decide +kernel)⟩
theorem lw_p30 : lw_okq (⟨"PriceDeskModel", "named", "()I"⟩, 17) := ⟨⟨by decide +kernel, by decide +kernel⟩, List.mem_of_getElem? (i := 875) (by decide +kernel), List.mem_of_getElem? (i := 1001) (by decide +kernel), List.mem_of_getElem? (i := 1002) (by decide +kernel)⟩
theorem lw_p31 : lw_okq (⟨"PriceDeskModel", "readContract", "()Z"⟩, 17) := ⟨⟨by decide +kernel, by decide +kernel⟩, List.mem_of_getElem? (i := 875) (by decide +kernel), List.mem_of_getElem? (i := 1005) (by decide +kernel), List.mem_of_getElem? (i := 1006) (by decide +kernel)⟩
def lw_privs_2 : List (MethodName × Nat) := [(⟨"PriceDesk$TextReader", "readValue", "(LPriceDesk$Index;I)Z"⟩, 6), (⟨"PriceDesk", "takeBackValue", "(I)V"⟩, 4), (⟨"PriceDesk", "takeBackRebasing", "(I)V"⟩, 4), (⟨"PriceDesk", "takeBackClose", "()V"⟩, 4), (⟨"java/lang/Throwable", "fillInStackTrace", "(I)Ljava/lang/Throwable;"⟩, 6), (⟨"PriceDeskModel", "lays", "(I)V"⟩, 17), (⟨"PriceDeskModel", "go", "()V"⟩, 17), (⟨"PriceDeskModel", "tapeAt", "(I)I"⟩, 17), (⟨"PriceDeskModel", "readLine", "(Z)Z"⟩, 17), (⟨"PriceDeskModel", "is", "(I)Z"⟩, 17), (⟨"PriceDeskModel", "bad", "(I)Z"⟩, 17), (⟨"PriceDeskModel", "told", "(III)Z"⟩, 17), (⟨"PriceDeskModel", "readIndex", "()Z"⟩, 17), (⟨"PriceDeskModel", "isName", "()Z"⟩, 17), (⟨"PriceDeskModel", "named", "()I"⟩, 17), (⟨"PriceDeskModel", "readContract", "()Z"⟩, 17)]
theorem lw_r2 : ∀ q ∈ lw_privs_2, lw_okq q := List.forall_mem_cons.mpr ⟨lw_p16, List.forall_mem_cons.mpr ⟨lw_p17, List.forall_mem_cons.mpr ⟨lw_p18, List.forall_mem_cons.mpr ⟨lw_p19, List.forall_mem_cons.mpr ⟨lw_p20, List.forall_mem_cons.mpr ⟨lw_p21, List.forall_mem_cons.mpr ⟨lw_p22, List.forall_mem_cons.mpr ⟨lw_p23, List.forall_mem_cons.mpr ⟨lw_p24, List.forall_mem_cons.mpr ⟨lw_p25, List.forall_mem_cons.mpr ⟨lw_p26, List.forall_mem_cons.mpr ⟨lw_p27, List.forall_mem_cons.mpr ⟨lw_p28, List.forall_mem_cons.mpr ⟨lw_p29, List.forall_mem_cons.mpr ⟨lw_p30, List.forall_mem_cons.mpr ⟨lw_p31, fun _ h => absurd h List.not_mem_nil⟩⟩⟩⟩⟩⟩⟩⟩⟩⟩⟩⟩⟩⟩⟩⟩
theorem lw_p32 : lw_okq (⟨"PriceDeskModel", "isSign", "(I)Z"⟩, 17) := ⟨⟨by decide +kernel, by decide +kernel⟩, List.mem_of_getElem? (i := 875) (by decide +kernel), List.mem_of_getElem? (i := 1009) (by decide +kernel), List.mem_of_getElem? (i := 1010) (by decide +kernel)⟩
theorem lw_p33 : lw_okq (⟨"PriceDeskModel", "readTerms", "(I)Z"⟩, 17) := ⟨⟨by decide +kernel, by decide +kernel⟩, List.mem_of_getElem? (i := 875) (by decide +kernel), List.mem_of_getElem? (i := 1013) (by decide +kernel), List.mem_of_getElem? (i := 1014) (by decide +kernel)⟩
theorem lw_p34 : lw_okq (⟨"PriceDeskModel", "readBase", "(I)Z"⟩, 17) := ⟨⟨by decide +kernel, by decide +kernel⟩, List.mem_of_getElem? (i := 875) (by decide +kernel), List.mem_of_getElem? (i := 1017) (by decide +kernel), List.mem_of_getElem? (i := 1018) (by decide +kernel)⟩
theorem lw_p35 : lw_okq (⟨"PriceDeskModel", "readWord", "(I)Z"⟩, 17) := ⟨⟨by decide +kernel, by decide +kernel⟩, List.mem_of_getElem? (i := 875) (by decide +kernel), List.mem_of_getElem? (i := 1021) (by decide +kernel), List.mem_of_getElem? (i := 1022) (by decide +kernel)⟩
theorem lw_p36 : lw_okq (⟨"PriceDeskModel", "readEnd", "()Z"⟩, 17) := ⟨⟨by decide +kernel, by decide +kernel⟩, List.mem_of_getElem? (i := 875) (by decide +kernel), List.mem_of_getElem? (i := 1025) (by decide +kernel), List.mem_of_getElem? (i := 1026) (by decide +kernel)⟩
theorem lw_p37 : lw_okq (⟨"PriceDeskModel", "month", "()I"⟩, 17) := ⟨⟨by decide +kernel, by decide +kernel⟩, List.mem_of_getElem? (i := 875) (by decide +kernel), List.mem_of_getElem? (i := 1037) (by decide +kernel), List.mem_of_getElem? (i := 1038) (by decide +kernel)⟩
theorem lw_p38 : lw_okq (⟨"PriceDeskModel", "settled", "()I"⟩, 17) := ⟨⟨by decide +kernel, by decide +kernel⟩, List.mem_of_getElem? (i := 875) (by decide +kernel), List.mem_of_getElem? (i := 1041) (by decide +kernel), List.mem_of_getElem? (i := 1042) (by decide +kernel)⟩
theorem lw_p39 : lw_okq (⟨"PriceDeskModel", "its", "(II)I"⟩, 17) := ⟨⟨by decide +kernel, by decide +kernel⟩, List.mem_of_getElem? (i := 875) (by decide +kernel), List.mem_of_getElem? (i := 1045) (by decide +kernel), List.mem_of_getElem? (i := 1046) (by decide +kernel)⟩
theorem lw_p40 : lw_okq (⟨"PriceDeskModel", "isIndex", "(I)Z"⟩, 17) := ⟨⟨by decide +kernel, by decide +kernel⟩, List.mem_of_getElem? (i := 875) (by decide +kernel), List.mem_of_getElem? (i := 1053) (by decide +kernel), List.mem_of_getElem? (i := 1054) (by decide +kernel)⟩
theorem lw_p41 : lw_okq (⟨"PriceDeskModel", "knownAt", "(II)I"⟩, 17) := ⟨⟨by decide +kernel, by decide +kernel⟩, List.mem_of_getElem? (i := 875) (by decide +kernel), List.mem_of_getElem? (i := 1060) (by decide +kernel), List.mem_of_getElem? (i := 1061) (by decide +kernel)⟩
theorem lw_p42 : lw_okq (⟨"PriceDeskModel", "sureOf", "(II)I"⟩, 17) := ⟨⟨by decide +kernel, by decide +kernel⟩, List.mem_of_getElem? (i := 875) (by decide +kernel), List.mem_of_getElem? (i := 1064) (by decide +kernel), List.mem_of_getElem? (i := 1065) (by decide +kernel)⟩
theorem lw_p43 : lw_okq (⟨"PriceDeskModel", "valueOf", "(II)I"⟩, 17) := ⟨⟨by decide +kernel, by decide +kernel⟩, List.mem_of_getElem? (i := 875) (by decide +kernel), List.mem_of_getElem? (i := 1068) (by decide +kernel), List.mem_of_getElem? (i := 1069) (by decide +kernel)⟩
theorem lw_p44 : lw_okq (⟨"PriceDeskModel", "baseOf", "(III)I"⟩, 17) := ⟨⟨by decide +kernel, by decide +kernel⟩, List.mem_of_getElem? (i := 875) (by decide +kernel), List.mem_of_getElem? (i := 1076) (by decide +kernel), List.mem_of_getElem? (i := 1077) (by decide +kernel)⟩
theorem lw_p45 : lw_okq (⟨"PriceDeskModel", "refuse", "()I"⟩, 17) := ⟨⟨by decide +kernel, by decide +kernel⟩, List.mem_of_getElem? (i := 875) (by decide +kernel), List.mem_of_getElem? (i := 1084) (by decide +kernel), List.mem_of_getElem? (i := 1085) (by decide +kernel)⟩
theorem lw_p46 : lw_okq (⟨"PriceDeskModel", "ratioOf", "(III)I"⟩, 17) := ⟨⟨by decide +kernel, by decide +kernel⟩, List.mem_of_getElem? (i := 875) (by decide +kernel), List.mem_of_getElem? (i := 1088) (by decide +kernel), List.mem_of_getElem? (i := 1089) (by decide +kernel)⟩
theorem lw_p47 : lw_okq (⟨"PriceDeskModel", "isContract", "(I)Z"⟩, 17) := ⟨⟨by decide +kernel, by decide +kernel⟩, List.mem_of_getElem? (i := 875) (by decide +kernel), List.mem_of_getElem? (i := 1099) (by decide +kernel), List.mem_of_getElem? (i := 1100) (by decide +kernel)⟩
def lw_privs_3 : List (MethodName × Nat) := [(⟨"PriceDeskModel", "isSign", "(I)Z"⟩, 17), (⟨"PriceDeskModel", "readTerms", "(I)Z"⟩, 17), (⟨"PriceDeskModel", "readBase", "(I)Z"⟩, 17), (⟨"PriceDeskModel", "readWord", "(I)Z"⟩, 17), (⟨"PriceDeskModel", "readEnd", "()Z"⟩, 17), (⟨"PriceDeskModel", "month", "()I"⟩, 17), (⟨"PriceDeskModel", "settled", "()I"⟩, 17), (⟨"PriceDeskModel", "its", "(II)I"⟩, 17), (⟨"PriceDeskModel", "isIndex", "(I)Z"⟩, 17), (⟨"PriceDeskModel", "knownAt", "(II)I"⟩, 17), (⟨"PriceDeskModel", "sureOf", "(II)I"⟩, 17), (⟨"PriceDeskModel", "valueOf", "(II)I"⟩, 17), (⟨"PriceDeskModel", "baseOf", "(III)I"⟩, 17), (⟨"PriceDeskModel", "refuse", "()I"⟩, 17), (⟨"PriceDeskModel", "ratioOf", "(III)I"⟩, 17), (⟨"PriceDeskModel", "isContract", "(I)Z"⟩, 17)]
theorem lw_r3 : ∀ q ∈ lw_privs_3, lw_okq q := List.forall_mem_cons.mpr ⟨lw_p32, List.forall_mem_cons.mpr ⟨lw_p33, List.forall_mem_cons.mpr ⟨lw_p34, List.forall_mem_cons.mpr ⟨lw_p35, List.forall_mem_cons.mpr ⟨lw_p36, List.forall_mem_cons.mpr ⟨lw_p37, List.forall_mem_cons.mpr ⟨lw_p38, List.forall_mem_cons.mpr ⟨lw_p39, List.forall_mem_cons.mpr ⟨lw_p40, List.forall_mem_cons.mpr ⟨lw_p41, List.forall_mem_cons.mpr ⟨lw_p42, List.forall_mem_cons.mpr ⟨lw_p43, List.forall_mem_cons.mpr ⟨lw_p44, List.forall_mem_cons.mpr ⟨lw_p45, List.forall_mem_cons.mpr ⟨lw_p46, List.forall_mem_cons.mpr ⟨lw_p47, fun _ h => absurd h List.not_mem_nil⟩⟩⟩⟩⟩⟩⟩⟩⟩⟩⟩⟩⟩⟩⟩⟩
theorem lw_p48 : lw_okq (⟨"PriceDeskModel", "toldBy", "(II)I"⟩, 17) := ⟨⟨by decide +kernel, by decide +kernel⟩, List.mem_of_getElem? (i := 875) (by decide +kernel), List.mem_of_getElem? (i := 1103) (by decide +kernel), List.mem_of_getElem? (i := 1104) (by decide +kernel)⟩
theorem lw_p49 : lw_okq (⟨"PriceDeskModel", "factorOf", "(II)I"⟩, 17) := ⟨⟨by decide +kernel, by decide +kernel⟩, List.mem_of_getElem? (i := 875) (by decide +kernel), List.mem_of_getElem? (i := 1111) (by decide +kernel), List.mem_of_getElem? (i := 1112) (by decide +kernel)⟩
theorem lw_p50 : lw_okq (⟨"PriceDeskModel", "moveOf", "(II)I"⟩, 17) := ⟨⟨by decide +kernel, by decide +kernel⟩, List.mem_of_getElem? (i := 875) (by decide +kernel), List.mem_of_getElem? (i := 1116) (by decide +kernel), List.mem_of_getElem? (i := 1117) (by decide +kernel)⟩
theorem lw_p51 : lw_okq (⟨"PriceDeskModel", "priceOf", "(II)I"⟩, 17) := ⟨⟨by decide +kernel, by decide +kernel⟩, List.mem_of_getElem? (i := 875) (by decide +kernel), List.mem_of_getElem? (i := 1122) (by decide +kernel), List.mem_of_getElem? (i := 1123) (by decide +kernel)⟩
theorem lw_p52 : lw_okq (⟨"PriceDeskModel", "priceBy", "(III)I"⟩, 17) := ⟨⟨by decide +kernel, by decide +kernel⟩, List.mem_of_getElem? (i := 875) (by decide +kernel), List.mem_of_getElem? (i := 1131) (by decide +kernel), List.mem_of_getElem? (i := 1132) (by decide +kernel)⟩
theorem lw_p53 : lw_okq (⟨"PriceDeskModel", "isDelivery", "(I)Z"⟩, 17) := ⟨⟨by decide +kernel, by decide +kernel⟩, List.mem_of_getElem? (i := 875) (by decide +kernel), List.mem_of_getElem? (i := 1143) (by decide +kernel), List.mem_of_getElem? (i := 1144) (by decide +kernel)⟩
theorem lw_p54 : lw_okq (⟨"PriceDeskModel", "waits", "(I)I"⟩, 17) := ⟨⟨by decide +kernel, by decide +kernel⟩, List.mem_of_getElem? (i := 875) (by decide +kernel), List.mem_of_getElem? (i := 1147) (by decide +kernel), List.mem_of_getElem? (i := 1148) (by decide +kernel)⟩
theorem lw_p55 : lw_okq (⟨"PriceDeskModel", "billed", "(I)J"⟩, 17) := ⟨⟨by decide +kernel, by decide +kernel⟩, List.mem_of_getElem? (i := 875) (by decide +kernel), List.mem_of_getElem? (i := 1155) (by decide +kernel), List.mem_of_getElem? (i := 1156) (by decide +kernel)⟩
theorem lw_p56 : lw_okq (⟨"PriceDeskModel", "lastBase", "(I)I"⟩, 17) := ⟨⟨by decide +kernel, by decide +kernel⟩, List.mem_of_getElem? (i := 875) (by decide +kernel), List.mem_of_getElem? (i := 1167) (by decide +kernel), List.mem_of_getElem? (i := 1168) (by decide +kernel)⟩
theorem lw_p57 : lw_okq (⟨"PriceDeskModel", "snap", "()V"⟩, 17) := ⟨⟨by decide +kernel, by decide +kernel⟩, List.mem_of_getElem? (i := 875) (by decide +kernel), List.mem_of_getElem? (i := 1171) (by decide +kernel), List.mem_of_getElem? (i := 1172) (by decide +kernel)⟩
def lw_privs_4 : List (MethodName × Nat) := [(⟨"PriceDeskModel", "toldBy", "(II)I"⟩, 17), (⟨"PriceDeskModel", "factorOf", "(II)I"⟩, 17), (⟨"PriceDeskModel", "moveOf", "(II)I"⟩, 17), (⟨"PriceDeskModel", "priceOf", "(II)I"⟩, 17), (⟨"PriceDeskModel", "priceBy", "(III)I"⟩, 17), (⟨"PriceDeskModel", "isDelivery", "(I)Z"⟩, 17), (⟨"PriceDeskModel", "waits", "(I)I"⟩, 17), (⟨"PriceDeskModel", "billed", "(I)J"⟩, 17), (⟨"PriceDeskModel", "lastBase", "(I)I"⟩, 17), (⟨"PriceDeskModel", "snap", "()V"⟩, 17)]
theorem lw_r4 : ∀ q ∈ lw_privs_4, lw_okq q := List.forall_mem_cons.mpr ⟨lw_p48, List.forall_mem_cons.mpr ⟨lw_p49, List.forall_mem_cons.mpr ⟨lw_p50, List.forall_mem_cons.mpr ⟨lw_p51, List.forall_mem_cons.mpr ⟨lw_p52, List.forall_mem_cons.mpr ⟨lw_p53, List.forall_mem_cons.mpr ⟨lw_p54, List.forall_mem_cons.mpr ⟨lw_p55, List.forall_mem_cons.mpr ⟨lw_p56, List.forall_mem_cons.mpr ⟨lw_p57, fun _ h => absurd h List.not_mem_nil⟩⟩⟩⟩⟩⟩⟩⟩⟩⟩
def lw_privs : List (MethodName × Nat) := lw_privs_1 ++ (lw_privs_2 ++ (lw_privs_3 ++ (lw_privs_4)))
def lw_tbl : List Cond := k2_sels lw_privs ++ tables_1
theorem lw_privs_ok : ∀ q ∈ lw_privs, lw_okq q := by
  show ∀ q ∈ lw_privs_1 ++ (lw_privs_2 ++ (lw_privs_3 ++ (lw_privs_4))), lw_okq q
  exact List.forall_mem_append.mpr ⟨lw_r1, List.forall_mem_append.mpr ⟨lw_r2, List.forall_mem_append.mpr ⟨lw_r3, lw_r4⟩⟩⟩
end
section
/-! ===== BEGIN words of one list among another's, by their places ===== -/
theorem goodIn_r {big : List Cond} (ws : List Cond) (ps : List Nat) (hp : ws = ps.filterMap (fun i => big[i]?)) (h : ws.all goodWord = true) : GoodIn big ws := by
  intro w hw
  have h1 := List.all_eq_true.mp h w hw
  rw [hp] at hw
  obtain ⟨i, -, hi⟩ := List.mem_filterMap.mp hw
  have hm : w ∈ big := by first | exact List.mem_of_getElem? hi | exact List.getElem?_mem hi
  exact ⟨hm, good_of_word h1⟩
theorem goodIn_app {big a b : List Cond} (ha : GoodIn big a) (hb : GoodIn big b) : GoodIn big (a ++ b) := fun w h => (List.mem_append.mp h).elim (ha w) (hb w)
theorem goodIn_ca {big a b : List Cond} {c : Cond} (ha : GoodIn big (c :: a)) (hb : GoodIn big b) : GoodIn big (c :: (a ++ b)) := fun w h => (List.mem_cons.mp h).elim (fun e => ha w (List.mem_cons.mpr (Or.inl e))) (fun h => (List.mem_append.mp h).elim (fun h => ha w (List.mem_cons.mpr (Or.inr h))) (hb w))
theorem goodIn_sub {big ws : List Cond} (hm : ∀ w ∈ ws, w ∈ big) (h : ws.all goodWord = true) : GoodIn big ws := fun w hw => ⟨hm w hw, good_of_word (List.all_eq_true.mp h w hw)⟩
/-! ===== END ===== -/

/-! ===== BEGIN exceptions that leave a method, and their catching by the caller (launches without stack traces) ===== -/
section VXA
/-! The laws vx_back, vx_callV, vx_callS, vx_callSW, vx_throw0, vx_throwS follow proofs of the library, with one case more: JvmDerived/Free/Laws.lean (Back.of_free), Shelf42/LK1.lean (callV, callS), Shelf/KitTraced.lean (throwNew0V, throwNewS). -/
/-- where a method has thrown q: the class by its name, the cell, what was written, the world -/
def vx_T (XC : String → State → State → Prop) (st : State) (q : Addr) (t : State) (mc ms : Nat) (free : Addr → Prop) : Prop :=
  ∃ (E : String) (ce : Cell) (L : List Loc), XC E st t ∧ t.heap[q]? = some ce ∧ ce.vm = .none ∧ st.vm.findClass E = some ce.cls ∧ st.WarmedH t.vm ∧ st.sameButNew ({ t with vm := st.vm } : State) L mc ms ∧ ∀ z ∈ L, free z.base
def vx_Q (Qc : Array Value → State → Outcome → State → Prop) (XC : String → State → State → Prop) (mc ms : Nat) (free : Addr → Prop) : Array Value → State → Outcome → State → Prop := fun a st o t =>
  (Qc a st o t ∧ ∃ L, FrameEnd st o t L mc ms ∧ ∀ q ∈ L, free q.base) ∨ ∃ q, o = .threw q ∧ vx_T XC st q t mc ms free
/-- a callee that returns or throws -/
def vx_Met (l : Launch) (y : MethodName) (ws : List Cond) (rm : Room) (Pc : Array Value → State → Prop) (Qc : Array Value → State → Outcome → State → Prop) (XC : String → State → State → Prop) (mc ms : Nat) (free : Addr → Prop) : Prop :=
  MetFree l y (headSpec ws rm) Pc (fun _ _ _ _ _ => True) (vx_Q Qc XC mc ms free)
def vx_Post (XC : String → State → State → Prop) (mc ms : Nat) (free : Addr → Prop) : Pt → Array Value → Addr → Pt → Prop := fun A a q B =>
  ∃ (g : JFrame) (mk : MethodId) (t : State) (L : List Loc) (E : String) (ce : Cell), B.U.heap = t.heap ∧ B.U.vm = t.vm ∧ XC E (A.U.calling g mk a) t ∧ t.heap[q]? = some ce ∧ ce.vm = .none ∧ A.U.vm.findClass E = some ce.cls ∧ B.locs = A.locs ++ L ∧ (∀ z ∈ L, free z.base) ∧ B.cells = A.cells + mc ∧ B.slots = A.slots + ms
def vx_Back (l : Launch) (R : Room) (p : Program) (e : Env) (below : List Frame) (s : State) (sargs : Array Value) (y : MethodName) (len W9 : Nat)
    (Pre : Pt → Array Value → Prop) (Post : Pt → Array Value → Option Value → Pt → Prop) (PostX : Pt → Array Value → Addr → Pt → Prop) : Prop :=
  ∀ (m : MethodId) (meth : Method) (c : Code) (A : Pt) (g : JFrame) (ig : Instr) (mk : MethodId) (a : Array Value),
    Stand p l e R s m sargs below meth c A.U A.locs A.cells A.slots → g.method = m → g.locals.size = c.maxLocals → decode c.code g.pc = .ok (ig, len) →
    2 * g.monitorRoom + (g.stack.map fun v => v.category).sum ≤ W9 → A.U.methodNamed? y = some mk → Pre A a →
    (∃ (v : Option Value) (B : Pt), Stand p l e R s m sargs below meth c B.U B.locs B.cells B.slots ∧ Post A a v B ∧
      Steps p.tables e below (doInvoke e (A.U.setTop g) [] mk a).1 (B.U.setTop { g with pc := g.pc + len, stack := v.toList ++ g.stack })) ∨
    (∃ (q : Addr) (B : Pt), Stand p l e R s m sargs below meth c B.U B.locs B.cells B.slots ∧ PostX A a q B ∧
      Steps p.tables e below (doInvoke e (A.U.setTop g) [] mk a).1 ((B.U.setTop g).pushFrame (.throwing q)))
section Payer
variable {l : Launch} {R : Room} {p : Program} {e : Env} {below : List Frame} {s : State} {sargs : Array Value} {y : MethodName} {len W9 : Nat}
theorem vx_back {ws : List Cond} {rm : Room} {Pc : Array Value → State → Prop} {Qc : Array Value → State → Outcome → State → Prop} {XC : String → State → State → Prop} {mc ms : Nat} {free : Addr → Prop} {bytes : ByteArray} {maxL : Nat} {ret : Option FieldType}
    (hM : vx_Met l y ws rm Pc Qc XC mc ms free) (hblind : FrameBlind Pc) (hrc : rm.cells = mc) (hrs : rm.slots = ms)
    (hframes : rm.frames + 1 ≤ R.frames) (hlocals : W9 + (maxL + 11) + rm.locals ≤ R.locals)
    (hws : ∀ w ∈ ws, ∀ a' U, s.WarmedH U.vm → w.before a' U = true) (hcode : Cond.code y bytes maxL ret ∈ ws) (hinit : ∀ a' U, s.WarmedH U.vm → (Cond.initialized y.cls).before a' U = true) :
    vx_Back l R p e below s sargs y len W9 (PreOf R mc ms Pc) (PostOf Qc mc ms free) (vx_Post XC mc ms free) := by
  intro m meth c A g ig mk a X hg hsize hdg hW hn hp
  have h1 : (headSpec ws rm).pre.before a A.U = true := atoms_intro fun w hw => hws w hw _ _ X.warmed
  have h2 : (Cond.code y bytes maxL ret).before a A.U = true := hws _ hcode _ _ X.warmed
  have h3 : (Cond.initialized y.cls).before a A.U = true := hinit _ _ X.warmed
  have h4 : A.cells + (headSpec ws rm).room.cells ≤ R.cells := by rw [show (headSpec ws rm).room.cells = mc from hrc]; exact hp.1
  have h5 : A.slots + (headSpec ws rm).room.slots ≤ R.slots := by rw [show (headSpec ws rm).room.slots = ms from hrs]; exact hp.2.1
  have hPc : Pc a (A.U.calling g mk a) := hblind _ _ _ _ hp.2.2
  obtain ⟨U, Ls, c0, s0⟩ := A
  dsimp only [Pt.U, Pt.locs, Pt.cells, Pt.slots] at h1 h2 h3 h4 h5 X hn hPc ⊢
  obtain ⟨methY, cY, hmY, hcY, -, hlY, -, -, -, -⟩ := Cond.code_spec hn h2
  obtain ⟨kY, hkY, -⟩ := className_of_methodNamed hn
  have hinitY : kY.init = .initialized := Cond.initialized_spec (findClass_of_methodNamed hn) hkY h3
  have h : At U g.method c below := by rw [hg]; exact X.here
  have hlocals9 : W9 + (maxL + 11) + (headSpec ws rm).room.locals ≤ R.locals := hlocals
  have happ : (headSpec ws rm).appliesLoose y e.platform (U.calling g mk a) = true :=
    Spec.appliesLoose_calling (g := g) h hdg hn hkY hinitY
      (X.room_calling (g := g) (R' := (headSpec ws rm).room) hsize hmY hcY hframes (by rw [hlY]; omega) h4 h5) h1
  obtain ⟨mid, hmid⟩ := h.above
  have hfr : (U.setTop g).frames = (.java g :: mid) ++ below := by rw [State.frames_setTop' g h.top, hmid]; rfl
  obtain ⟨o, s₂, hsteps, -, hend, hq⟩ := Steps.callFree hM p X.admits X.cas X.clock (acts := []) hfr happ hPc trivial
  have hq' : vx_Q Qc XC mc ms free a (U.calling g mk a) o s₂ := hq
  rw [State.frames_setTop' g h.top] at hend
  obtain ⟨g₀, hg0⟩ := Option.isSome_iff_exists.mp h.top
  obtain ⟨r, hr⟩ := State.topJava?_eq_some.mp hg0
  have hr' : (({ U with heap := s₂.heap, slotsUsed := s₂.slotsUsed } : State).setVm s₂.vm).frames = .java g₀ :: r := hr
  rcases hq' with ⟨hqc, L, hfe, hL⟩ | ⟨q, rfl, E, ce, L, hx, hce, hcv, hcl, hW₂, hsm, hL⟩
  · obtain ⟨⟨v, rfl⟩, hW₂, e2, q2, q3, q4, q5, q6⟩ := id hfe
    have e3 : s₂ = ({ (U.calling g mk a).setFrames s₂.frames with heap := s₂.heap, slotsUsed := s₂.slotsUsed } : State).setVm s₂.vm := by
      have : s₂ = ({ s₂ with vm := (U.calling g mk a).vm } : State).setVm s₂.vm := rfl
      rw [e2] at this
      exact this
    obtain ⟨c₂, i₂, len₂, hc₂, hd₂, hf₂⟩ := hend
    have hW' : U.WarmedH s₂.vm := hW₂
    have hcc : c₂ = c := by
      have h1 : s₂.code? g.method = U.code? g.method := by
        rw [State.code?_eq, State.code?_eq, hW'.alike.method?]
      exact Option.some.inj (hc₂.symm.trans (h1.trans h.code))
    subst hcc
    have hlen : len₂ = len := by rw [hdg] at hd₂; cases hd₂; rfl
    subst hlen
    have hs₂ : s₂ = (({ U with heap := s₂.heap, slotsUsed := s₂.slotsUsed } : State).setVm s₂.vm).setTop { g with pc := g.pc + len₂, stack := v.toList ++ g.stack } := by
      refine e3.trans ?_
      rw [hf₂, State.calling_eq h.top, State.setFrames_setFrames, State.setTop_of_frames _ hr', hr]
      rfl
    have hsame : U.sameButNew ({ U with heap := s₂.heap, slotsUsed := s₂.slotsUsed } : State) L mc ms := by
      refine ⟨?_, q2, q3, q4, q5, q6⟩
      obtain ⟨t, ht, -⟩ := State.frames_cons hr
      show ({ U with heap := s₂.heap, slotsUsed := s₂.slotsUsed } : State) = { U.setFrames U.frames with heap := s₂.heap, slotsUsed := s₂.slotsUsed }
      rw [State.setFrames_self ht]
    subst hg
    refine Or.inl ⟨v, ⟨(({ U with heap := s₂.heap, slotsUsed := s₂.slotsUsed } : State).setVm s₂.vm), Ls ++ L, c0 + mc, s0 + ms⟩,
      ⟨X.admits, X.cas, X.clock, X.frames, X.room, X.hears, X.method, X.code, (X.here.setHeapUsed s₂.heap s₂.slotsUsed).setVm hW'.alike, X.tail, State.WarmedH.trans X.warmed hW', X.limits, X.bytes, X.same.trans (hsame.setVm s.vm)⟩,
      ⟨g, mk, s₂, L, rfl, rfl, hqc, rfl, hL, rfl, rfl⟩, ?_⟩
    show Steps p.tables e below _ ((({ U with heap := s₂.heap, slotsUsed := s₂.slotsUsed } : State).setVm s₂.vm).setTop { g with pc := g.pc + len₂, stack := v.toList ++ g.stack })
    rw [← hs₂]
    exact hsteps
  · obtain ⟨e2, q2, q3, q4, q5, q6⟩ := id hsm
    have e3 : s₂ = ({ (U.calling g mk a).setFrames s₂.frames with heap := s₂.heap, slotsUsed := s₂.slotsUsed } : State).setVm s₂.vm := by
      have : s₂ = ({ s₂ with vm := (U.calling g mk a).vm } : State).setVm s₂.vm := rfl
      rw [e2] at this
      exact this
    have hf₂ : s₂.frames = .throwing q :: .java g :: U.frames.tail := hend
    have hW' : U.WarmedH s₂.vm := hW₂
    have hs₂ : s₂ = ((({ U with heap := s₂.heap, slotsUsed := s₂.slotsUsed } : State).setVm s₂.vm).setTop g).pushFrame (.throwing q) := by
      refine e3.trans ?_
      rw [hf₂, State.calling_eq h.top, State.setFrames_setFrames, State.pushFrame, State.frames_setTop _ hr', State.setTop_of_frames _ hr', State.setFrames_setFrames, hr]
      rfl
    have hsame : U.sameButNew ({ U with heap := s₂.heap, slotsUsed := s₂.slotsUsed } : State) L mc ms := by
      refine ⟨?_, q2, q3, q4, q5, q6⟩
      obtain ⟨t, ht, -⟩ := State.frames_cons hr
      show ({ U with heap := s₂.heap, slotsUsed := s₂.slotsUsed } : State) = { U.setFrames U.frames with heap := s₂.heap, slotsUsed := s₂.slotsUsed }
      rw [State.setFrames_self ht]
    subst hg
    refine Or.inr ⟨q, ⟨(({ U with heap := s₂.heap, slotsUsed := s₂.slotsUsed } : State).setVm s₂.vm), Ls ++ L, c0 + mc, s0 + ms⟩,
      ⟨X.admits, X.cas, X.clock, X.frames, X.room, X.hears, X.method, X.code, (X.here.setHeapUsed s₂.heap s₂.slotsUsed).setVm hW'.alike, X.tail, State.WarmedH.trans X.warmed hW', X.limits, X.bytes, X.same.trans (hsame.setVm s.vm)⟩,
      ⟨g, mk, s₂, L, E, ce, rfl, rfl, hx, hce, hcv, hcl, rfl, hL, rfl, rfl⟩, ?_⟩
    show Steps p.tables e below _ (((({ U with heap := s₂.heap, slotsUsed := s₂.slotsUsed } : State).setVm s₂.vm).setTop g).pushFrame (.throwing q))
    rw [← hs₂]
    exact hsteps
end Payer
section Calls
variable {p : Program} {l : Launch} {e : Env} {R : Room} {s : State} {m : MethodId} {args : Array Value} {below : List Frame} {meth : Method} {c : Code} {T : State} {locs : List Loc} {cells slots : Nat}
theorem vx_callV (X : Stand p l e R s m args below meth c T locs cells slots) (hexec : p.tables.exec = Jvm.exec) {own C : String} {index : Nat} {y : MethodName} {bytes : ByteArray} {maxL : Nat} {ret : Option FieldType}
    (hown : s.vm.findClass own = some m.cls) (hlink : (Cond.methodLink own index y).before args s = true) (hinst : (Cond.instanceMethod y).before args s = true) (hsel : (Cond.selects C y y).before args s = true)
    (hcode : (Cond.code y bytes maxL ret).before args s = true) (hy : y.cls ≠ "java/lang/invoke/MethodHandle" ∧ y.cls ≠ "java/lang/invoke/VarHandle")
    {W9 : Nat} {Pre : Pt → Array Value → Prop} {Post : Pt → Array Value → Option Value → Pt → Prop} {PostX : Pt → Array Value → Addr → Pt → Prop} (hK : vx_Back l R p e below s args y 3 W9 Pre Post PostX)
    {b : Addr} {cellB : Cell} (hcell : T.heap[b]? = some cellB) (hobj : cellB.vm.isStatics = false) (hcls : s.vm.findClass C = some cellB.cls)
    {g : JFrame} (hg : g.method = m) (hsize : g.locals.size = c.maxLocals) {argsL rest : List Value} (hlen : ∀ sig, parseMethodDescriptor y.desc = some sig → argsL.length = sig.parameters.length)
    (hstack : g.stack = argsL.reverse ++ .ref b :: rest) (hW : 2 * g.monitorRoom + (rest.map fun v => v.category).sum ≤ W9) (hdg : decode c.code g.pc = .ok (.invokevirtual index, 3))
    (hpre : ∀ vm₁, s.WarmedH vm₁ → Pre ⟨T.setVm vm₁, locs, cells, slots⟩ (Value.ref b :: argsL).toArray) :
    (∃ (v : Option Value) (vm₁ : Vm) (B : Pt), s.WarmedH vm₁ ∧ Stand p l e R s m args below meth c B.U B.locs B.cells B.slots ∧ Post ⟨T.setVm vm₁, locs, cells, slots⟩ (Value.ref b :: argsL).toArray v B ∧
      ∀ target, Steps p.tables e below (B.U.setTop { g with pc := g.pc + 3, stack := v.toList ++ rest }) target → Steps p.tables e below (T.setTop g) target) ∨
    (∃ (q : Addr) (vm₁ : Vm) (B : Pt), s.WarmedH vm₁ ∧ Stand p l e R s m args below meth c B.U B.locs B.cells B.slots ∧ PostX ⟨T.setVm vm₁, locs, cells, slots⟩ (Value.ref b :: argsL).toArray q B ∧
      Steps p.tables e below (T.setTop g) ((B.U.setTop { g with stack := rest }).pushFrame (.throwing q))) := by
  obtain ⟨mk, methM, hnamed, hmethM, hstM, habM⟩ := Cond.instanceMethod_spec hinst
  obtain ⟨methM', cM, hmethM', -, -, -, -, -, -, hsigM⟩ := Cond.code_spec hnamed hcode
  cases hmethM.symm.trans hmethM'
  obtain ⟨c2, r2, m2, q1, q2, q3, q4, kP, hkP, hkPi⟩ := Cond.selects_spec hsel
  cases hcls.symm.trans q1
  cases (State.methodFound?_of_named hnamed hy).symm.trans q2
  cases hnamed.symm.trans q3
  have hselP : selectMethod e.platform s.vm cellB.cls mk = .method mk := by rw [Launch.admits_selectMethod X.admits]; exact q4
  obtain ⟨vm₁, X₁, hstep₁⟩ := X.invokevirtual hexec hown hlink hnamed hmethM hstM hkP hkPi hy (a := b) (cell := cellB) hcell
    (fun z h => by rw [h] at hobj; cases hobj) hselP hmethM habM hkP hkPi (g := g) hg (argsL := argsL) (rest := rest) (hlen _ hsigM) hstack hdg
  rcases hK m meth c ⟨T.setVm vm₁, locs, cells, slots⟩ { g with stack := rest } (.invokevirtual index) mk (Value.ref b :: argsL).toArray X₁ hg hsize hdg hW (X₁.named hnamed) (hpre vm₁ X₁.warmed) with ⟨v, B, X', hpost, hsteps⟩ | ⟨q, B, X', hpost, hsteps⟩
  · exact Or.inl ⟨v, vm₁, B, X₁.warmed, X', hpost, fun target h => hstep₁ _ fun acts => by rw [doInvoke_state]; exact hsteps.trans h⟩
  · exact Or.inr ⟨q, vm₁, B, X₁.warmed, X', hpost, hstep₁ _ fun acts => by rw [doInvoke_state]; exact hsteps⟩
theorem vx_callS (X : Stand p l e R s m args below meth c T locs cells slots) (hexec : p.tables.exec = Jvm.exec) {own : String} {index : Nat} {y : MethodName} {bytes : ByteArray} {maxL : Nat} {ret : Option FieldType}
    (hown : s.vm.findClass own = some m.cls) (hlink : (Cond.methodLink own index y).before args s = true) (hstat : (Cond.static y).before args s = true) (hinit : (Cond.initialized y.cls).before args s = true)
    (hcode : (Cond.code y bytes maxL ret).before args s = true) (hy : y.cls ≠ "java/lang/invoke/MethodHandle" ∧ y.cls ≠ "java/lang/invoke/VarHandle")
    {W9 : Nat} {Pre : Pt → Array Value → Prop} {Post : Pt → Array Value → Option Value → Pt → Prop} {PostX : Pt → Array Value → Addr → Pt → Prop} (hK : vx_Back l R p e below s args y 3 W9 Pre Post PostX)
    {g : JFrame} (hg : g.method = m) (hsize : g.locals.size = c.maxLocals) {argsL rest : List Value} (hlen : ∀ sig, parseMethodDescriptor y.desc = some sig → argsL.length = sig.parameters.length)
    (hstack : g.stack = argsL.reverse ++ rest) (hW : 2 * g.monitorRoom + (rest.map fun v => v.category).sum ≤ W9) (hdg : decode c.code g.pc = .ok (.invokestatic index, 3))
    (hpre : ∀ vm₁, s.WarmedH vm₁ → Pre ⟨T.setVm vm₁, locs, cells, slots⟩ argsL.toArray) :
    (∃ (v : Option Value) (vm₁ : Vm) (B : Pt), s.WarmedH vm₁ ∧ Stand p l e R s m args below meth c B.U B.locs B.cells B.slots ∧ Post ⟨T.setVm vm₁, locs, cells, slots⟩ argsL.toArray v B ∧
      ∀ target, Steps p.tables e below (B.U.setTop { g with pc := g.pc + 3, stack := v.toList ++ rest }) target → Steps p.tables e below (T.setTop g) target) ∨
    (∃ (q : Addr) (vm₁ : Vm) (B : Pt), s.WarmedH vm₁ ∧ Stand p l e R s m args below meth c B.U B.locs B.cells B.slots ∧ PostX ⟨T.setVm vm₁, locs, cells, slots⟩ argsL.toArray q B ∧
      Steps p.tables e below (T.setTop g) ((B.U.setTop { g with stack := rest }).pushFrame (.throwing q))) := by
  obtain ⟨mk, hnamed⟩ := Cond.code_named hcode
  obtain ⟨methM, cM, hmethM, -, -, -, -, -, -, hsigM⟩ := Cond.code_spec hnamed hcode
  have hstatic : methM.isStatic = true := Cond.static_spec hnamed hmethM hstat
  obtain ⟨kP, hkP, -⟩ := className_of_methodNamed hnamed
  have hinitP : kP.init = .initialized := Cond.initialized_spec (findClass_of_methodNamed hnamed) hkP hinit
  obtain ⟨vm₁, X₁, hstep₁⟩ := X.invokestatic hexec hown hlink hnamed hmethM hstatic hkP hinitP hy (g := g) hg (argsL := argsL) (rest := rest) (hlen _ hsigM) hstack hdg
  rcases hK m meth c ⟨T.setVm vm₁, locs, cells, slots⟩ { g with stack := rest } (.invokestatic index) mk argsL.toArray X₁ hg hsize hdg hW (X₁.named hnamed) (hpre vm₁ X₁.warmed) with ⟨v, B, X', hpost, hsteps⟩ | ⟨q, B, X', hpost, hsteps⟩
  · exact Or.inl ⟨v, vm₁, B, X₁.warmed, X', hpost, fun target h => hstep₁ _ fun acts => by rw [doInvoke_state]; exact hsteps.trans h⟩
  · exact Or.inr ⟨q, vm₁, B, X₁.warmed, X', hpost, hstep₁ _ fun acts => by rw [doInvoke_state]; exact hsteps⟩
end Calls
theorem vx_cls {s : State} {T : State} {vm₁ : Vm} {E : String} {k : ClassId} (hW : s.WarmedH vm₁) (h : (T.setVm vm₁).vm.findClass E = some k) : s.vm.findClass E = some k := by
  have h1 : vm₁.findClass E = some k := h
  rw [hW.alike.findClass] at h1
  exact h1
/-- the method's frame g, with q thrown over it -/
def vx_W (p : Program) (l : Launch) (e : Env) (R : Room) (s : State) (m : MethodId) (args : Array Value) (below : List Frame) (meth : Method) (c : Code) (H : Heap) (locs : List Loc) (cells slots : Nat) (Q : State → Prop) (g : JFrame) (q : Addr) : Prop :=
  ∀ T : State, T.heap = H → Stand p l e R s m args below meth c T locs cells slots → ∃ t, Steps p.tables e below ((T.setTop g).pushFrame (.throwing q)) t ∧ Q t
def vx_Run (p : Program) (l : Launch) (e : Env) (R : Room) (s : State) (m : MethodId) (args : Array Value) (below : List Frame) (meth : Method) (c : Code) (H : Heap) (locs : List Loc) (cells slots mc ms : Nat) (g : JFrame) (rest : List Value) (Qa : State → Outcome → State → Prop) (XC : String → State → State → Prop) (free : Addr → Prop) : Prop :=
  ∀ T : State, T.heap = H → Stand p l e R s m args below meth c T locs cells slots →
    (∃ (v : Option Value) (st₀ t T' : State) (L : List Loc), st₀.heap = H ∧ Stand p l e R s m args below meth c T' (locs ++ L) (cells + mc) (slots + ms) ∧ (∀ q ∈ L, free q.base) ∧ T'.heap = t.heap ∧ T'.vm = t.vm ∧ Qa st₀ (.returned v) t ∧
      Goes p e below T g T' { g with pc := g.pc + 3, stack := v.toList ++ rest }) ∨
    (∃ (q : Addr) (st₀ t T' : State) (L : List Loc) (E : String) (ce : Cell), st₀.heap = H ∧ Stand p l e R s m args below meth c T' (locs ++ L) (cells + mc) (slots + ms) ∧ (∀ z ∈ L, free z.base) ∧ T'.heap = t.heap ∧ T'.vm = t.vm ∧ XC E st₀ t ∧ t.heap[q]? = some ce ∧ ce.vm = .none ∧ s.vm.findClass E = some ce.cls ∧
      Steps p.tables e below (T.setTop g) ((T'.setTop { g with stack := rest }).pushFrame (.throwing q)))
def vx_X {S : Type} (px : S → Prop) (B : String → S → State → Prop) (A : Nat → Prop) : String → State → State → Prop := fun E st t => ∃ u : S, px u ∧ B E u t ∧ va_F A st t
section Runs
variable {p : Program} {l : Launch} {e : Env} {R : Room} {s : State} {m : MethodId} {args : Array Value} {below : List Frame} {meth : Method} {c : Code} {H : Heap} {locs : List Loc} {cells slots : Nat}
variable {y : MethodName} {bytes cc : ByteArray} {maxL nL mc ms n index : Nat} {ret : Option FieldType} {ws : List Cond} {rm : Room} {Pc : Array Value → State → Prop} {Qc : Array Value → State → Outcome → State → Prop} {XC : String → State → State → Prop} {free : Addr → Prop} {Ts : List Cond} {own C : String} {b : Addr} {As rest : List Value} {g : JFrame}
theorem vx_callBack (cb : CallB R s args own index y bytes maxL ret ws rm mc ms n) (hM : vx_Met l y ws rm Pc Qc XC mc ms free) (hbl : FrameBlind Pc) : vx_Back l R p e below s args y 3 8 (PreOf R mc ms Pc) (PostOf Qc mc ms free) (vx_Post XC mc ms free) := by
  obtain ⟨hrc, hrs, hfr, hlo, hws, hcw, -, hini, -⟩ := cb
  exact vx_back (bytes := bytes) (maxL := maxL) (ret := ret) hM hbl hrc hrs hfr hlo hws hcw (fun a' U hW => word_at hW (Or.inl (by first | rfl | simp [Cond.onTables, Cond.keeps, Cond.steady])) hini)
theorem vx_runV (S : CallFix p m c cc nL s args Ts own) (hM : vx_Met l y ws rm Pc Qc XC mc ms free) (cw : CallW R s args own C index y bytes maxL ret ws rm mc ms n) (hp : PreV s H C b Pc As)
    (hg : g.method = m) (hn : As.length = n) (hsize : g.locals.size = nL) (hstack : g.stack = As.reverse ++ .ref b :: rest) (hW : 2 * g.monitorRoom + (rest.map fun v => v.category).sum ≤ 8) (hdg : decode cc g.pc = .ok (.invokevirtual index, 3)) (hf : cells + mc ≤ R.cells ∧ slots + ms ≤ R.slots) :
    vx_Run p l e R s m args below meth c H locs cells slots mc ms g rest (Qc (Value.ref b :: As).toArray) XC free := by
  have hK : vx_Back l R p e below s args y 3 8 (PreOf R mc ms Pc) (PostOf Qc mc ms free) (vx_Post XC mc ms free) := vx_callBack cw.1 hM hp.1
  obtain ⟨⟨-, -, -, -, -, -, hcode, -, hy, hlen, hl⟩, hin, hse⟩ := cw
  obtain ⟨hx, hb, hml, ho, -⟩ := S
  obtain ⟨-, ⟨cellB, hcB, hoB, hclB⟩, hPc⟩ := hp
  intro T hT X
  rcases vx_callV X hx (C := C) (bytes := bytes) (maxL := maxL) (ret := ret) ho hl hin hse hcode hy hK (by rw [hT]; exact hcB) hoB hclB hg (hsize.trans hml.symm) (argsL := As) (rest := rest) (fun sig h => hn.trans (hlen sig h)) hstack hW (by rw [hb]; exact hdg)
    (fun vm₁ hW₁ => ⟨hf.1, hf.2, hPc (T.setVm vm₁) hT hW₁⟩) with ⟨v, vm₁, ⟨U', l2, c2, s2⟩, hW₁, X', ⟨g', mk, t, L, e1, e2, hq, h1, hL, h2, h3⟩, st⟩ | ⟨q, vm₁, ⟨U', l2, c2, s2⟩, hW₁, X', ⟨g', mk, t, L, E, ce, e1, e2, hq, hce, hcv, hcl, h1, hL, h2, h3⟩, st⟩
  · dsimp only [Pt.U, Pt.locs, Pt.cells, Pt.slots] at X' e1 e2 h1 h2 h3 st
    subst h1; subst h2; subst h3
    exact Or.inl ⟨v, (T.setVm vm₁).calling g' mk (Value.ref b :: As).toArray, t, U', L, hT, X', hL, e1, e2, hq, st⟩
  · dsimp only [Pt.U, Pt.locs, Pt.cells, Pt.slots] at X' e1 e2 h1 h2 h3 st hcl
    subst h1; subst h2; subst h3
    exact Or.inr ⟨q, (T.setVm vm₁).calling g' mk (Value.ref b :: As).toArray, t, U', L, E, ce, hT, X', hL, e1, e2, hq, hce, hcv, vx_cls hW₁ hcl, st⟩
theorem vx_runS (S : CallFix p m c cc nL s args Ts own) (hM : vx_Met l y ws rm Pc Qc XC mc ms free) (cw : CallB R s args own index y bytes maxL ret ws rm mc ms n ∧ (Cond.static y).before args s = true) (hp : PreS s H Pc As)
    (hg : g.method = m) (hn : As.length = n) (hsize : g.locals.size = nL) (hstack : g.stack = As.reverse ++ rest) (hW : 2 * g.monitorRoom + (rest.map fun v => v.category).sum ≤ 8) (hdg : decode cc g.pc = .ok (.invokestatic index, 3)) (hf : cells + mc ≤ R.cells ∧ slots + ms ≤ R.slots) :
    vx_Run p l e R s m args below meth c H locs cells slots mc ms g rest (Qc As.toArray) XC free := by
  have hK : vx_Back l R p e below s args y 3 8 (PreOf R mc ms Pc) (PostOf Qc mc ms free) (vx_Post XC mc ms free) := vx_callBack cw.1 hM hp.1
  obtain ⟨⟨-, -, -, -, -, -, hcode, hini, hy, hlen, hl⟩, hstt⟩ := cw
  obtain ⟨hx, hb, hml, ho, -⟩ := S
  intro T hT X
  rcases vx_callS X hx (bytes := bytes) (maxL := maxL) (ret := ret) ho hl hstt hini hcode hy hK hg (hsize.trans hml.symm) (argsL := As) (rest := rest) (fun sig h => hn.trans (hlen sig h)) hstack hW (by rw [hb]; exact hdg)
    (fun vm₁ hW₁ => ⟨hf.1, hf.2, hp.2 (T.setVm vm₁) hT hW₁⟩) with ⟨v, vm₁, ⟨U', l2, c2, s2⟩, hW₁, X', ⟨g', mk, t, L, e1, e2, hq, h1, hL, h2, h3⟩, st⟩ | ⟨q, vm₁, ⟨U', l2, c2, s2⟩, hW₁, X', ⟨g', mk, t, L, E, ce, e1, e2, hq, hce, hcv, hcl, h1, hL, h2, h3⟩, st⟩
  · dsimp only [Pt.U, Pt.locs, Pt.cells, Pt.slots] at X' e1 e2 h1 h2 h3 st
    subst h1; subst h2; subst h3
    exact Or.inl ⟨v, (T.setVm vm₁).calling g' mk As.toArray, t, U', L, hT, X', hL, e1, e2, hq, st⟩
  · dsimp only [Pt.U, Pt.locs, Pt.cells, Pt.slots] at X' e1 e2 h1 h2 h3 st hcl
    subst h1; subst h2; subst h3
    exact Or.inr ⟨q, (T.setVm vm₁).calling g' mk As.toArray, t, U', L, E, ce, hT, X', hL, e1, e2, hq, hce, hcv, vx_cls hW₁ hcl, st⟩
end Runs
section Rows
variable {p : Program} {l : Launch} {e : Env} {R : Room} {s : State} {m : MethodId} {args : Array Value} {below : List Frame} {meth : Method} {c : Code} {H : Heap} {locs : List Loc} {cells slots : Nat} {Q : State → Prop}
variable {mc ms : Nat} {free : Addr → Prop} {A0 A1 : Nat → Prop} {H0 : Heap} {a : Array Value} {pc : Nat} {ls : Array Slot} {st0 rest : List Value}
theorem vx_keep {st₀ t T' : State} {L : List Loc} (h0 : st₀.heap = H) (e1 : T'.heap = t.heap) (hS : va_S A0 H0 H locs) (hA : ∀ q, q < H.size → A1 q → A0 q) (hf : ∀ q, free q → A0 q) (hL : ∀ q ∈ L, free q.base) (hF : va_F A1 st₀ t) :
    H.size ≤ T'.heap.size ∧ (∀ q : Nat, q < H.size → ¬ A1 q → T'.heap[q]? = H[q]?) ∧ va_S A0 H0 T'.heap (locs ++ L) := by
  obtain ⟨hz, hk⟩ := hF
  rw [h0] at hz hk
  exact ⟨by rw [e1]; exact hz, fun q h1 h2 => by rw [e1]; exact hk q h1 h2,
    ⟨Nat.le_trans hS.1 (by rw [e1]; exact hz), fun q h1 h2 => by rw [e1, hk q (Nat.lt_of_lt_of_le h1 hS.1) (fun z => h2 (hA q (Nat.lt_of_lt_of_le h1 hS.1) z))]; exact hS.2.1 q h1 h2, fun q hq => by
      rcases List.mem_append.mp hq with h | h
      · exact hS.2.2 q h
      · exact hf _ (hL q h)⟩⟩
theorem vx_calli {S SX : Type} {post : Int32 → S → Prop} {px : SX → Prop} {B : S → State → Prop} {BX : String → SX → State → Prop} {AX : Nat → Prop} (hr : vx_Run p l e R s m args below meth c H locs cells slots mc ms (F0 m pc ls st0) rest (va_Qi post B A1 a) (vx_X px BX AX) free) (hS : va_S A0 H0 H locs) (hA : ∀ q, q < H.size → A1 q → A0 q) (hf : ∀ q, free q → A0 q) (hAX : ∀ q, q < H.size → AX q → A0 q)
    (kx : ∀ (E : String) (ce : Cell) (q9 : Addr) (u : SX) (t : State) (H1 : Heap) (locs1 : List Loc), t.heap = H1 → s.vm.Alike t.vm → px u → BX E u t → H.size ≤ H1.size → (∀ q : Nat, q < H.size → ¬ AX q → H1[q]? = H[q]?) → va_S A0 H0 H1 locs1 → H1[q9]? = some ce → ce.vm = .none → s.vm.findClass E = some ce.cls → vx_W p l e R s m args below meth c H1 locs1 (cells + mc) (slots + ms) Q (F0 m pc ls rest) q9)
    (kk : ∀ (r : Int32) (u : S) (t : State) (H1 : Heap) (locs1 : List Loc), t.heap = H1 → s.vm.Alike t.vm → post r u → B u t → H.size ≤ H1.size → (∀ q : Nat, q < H.size → ¬ A1 q → H1[q]? = H[q]?) → va_S A0 H0 H1 locs1 → W p l e R s m args below meth c H1 locs1 (cells + mc) (slots + ms) Q (F0 m (pc + 3) ls (.int r :: rest))) : W p l e R s m args below meth c H locs cells slots Q (F0 m pc ls st0) := by
  intro T hT X
  rcases hr T hT X with ⟨v, st₀, t, T', L, h0, X', hL, e1, e2, ⟨⟨r, u, hv, hp, hb⟩, hF⟩, st⟩ | ⟨q, st₀, t, T', L, E, ce, h0, X', hL, e1, e2, ⟨u, hp, hb, hF⟩, hce, hcv, hcl, st⟩
  · cases hv
    obtain ⟨k1, k2, k3⟩ := vx_keep h0 e1 hS hA hf hL hF
    obtain ⟨t2, a1, b1⟩ := kk r u t T'.heap (locs ++ L) e1.symm (by rw [← e2]; exact X'.warmed.alike) hp hb k1 k2 k3 T' rfl X'
    exact ⟨t2, st t2 a1, b1⟩
  · obtain ⟨k1, k2, k3⟩ := vx_keep h0 e1 hS hAX hf hL hF
    obtain ⟨t2, a1, b1⟩ := kx E ce q u t T'.heap (locs ++ L) e1.symm (by rw [← e2]; exact X'.warmed.alike) hp hb k1 k2 k3 (by rw [e1]; exact hce) hcv hcl T' rfl X'
    exact ⟨t2, st.trans a1, b1⟩
theorem vx_calll {S SX : Type} {post : Int64 → S → Prop} {px : SX → Prop} {B : S → State → Prop} {BX : String → SX → State → Prop} {AX : Nat → Prop} (hr : vx_Run p l e R s m args below meth c H locs cells slots mc ms (F0 m pc ls st0) rest (va_Ql post B A1 a) (vx_X px BX AX) free) (hS : va_S A0 H0 H locs) (hA : ∀ q, q < H.size → A1 q → A0 q) (hf : ∀ q, free q → A0 q) (hAX : ∀ q, q < H.size → AX q → A0 q)
    (kx : ∀ (E : String) (ce : Cell) (q9 : Addr) (u : SX) (t : State) (H1 : Heap) (locs1 : List Loc), t.heap = H1 → s.vm.Alike t.vm → px u → BX E u t → H.size ≤ H1.size → (∀ q : Nat, q < H.size → ¬ AX q → H1[q]? = H[q]?) → va_S A0 H0 H1 locs1 → H1[q9]? = some ce → ce.vm = .none → s.vm.findClass E = some ce.cls → vx_W p l e R s m args below meth c H1 locs1 (cells + mc) (slots + ms) Q (F0 m pc ls rest) q9)
    (kk : ∀ (r : Int64) (u : S) (t : State) (H1 : Heap) (locs1 : List Loc), t.heap = H1 → s.vm.Alike t.vm → post r u → B u t → H.size ≤ H1.size → (∀ q : Nat, q < H.size → ¬ A1 q → H1[q]? = H[q]?) → va_S A0 H0 H1 locs1 → W p l e R s m args below meth c H1 locs1 (cells + mc) (slots + ms) Q (F0 m (pc + 3) ls (.long r :: rest))) : W p l e R s m args below meth c H locs cells slots Q (F0 m pc ls st0) := by
  intro T hT X
  rcases hr T hT X with ⟨v, st₀, t, T', L, h0, X', hL, e1, e2, ⟨⟨r, u, hv, hp, hb⟩, hF⟩, st⟩ | ⟨q, st₀, t, T', L, E, ce, h0, X', hL, e1, e2, ⟨u, hp, hb, hF⟩, hce, hcv, hcl, st⟩
  · cases hv
    obtain ⟨k1, k2, k3⟩ := vx_keep h0 e1 hS hA hf hL hF
    obtain ⟨t2, a1, b1⟩ := kk r u t T'.heap (locs ++ L) e1.symm (by rw [← e2]; exact X'.warmed.alike) hp hb k1 k2 k3 T' rfl X'
    exact ⟨t2, st t2 a1, b1⟩
  · obtain ⟨k1, k2, k3⟩ := vx_keep h0 e1 hS hAX hf hL hF
    obtain ⟨t2, a1, b1⟩ := kx E ce q u t T'.heap (locs ++ L) e1.symm (by rw [← e2]; exact X'.warmed.alike) hp hb k1 k2 k3 (by rw [e1]; exact hce) hcv hcl T' rfl X'
    exact ⟨t2, st.trans a1, b1⟩
theorem vx_callf {S SX : Type} {post : UInt32 → S → Prop} {px : SX → Prop} {B : S → State → Prop} {BX : String → SX → State → Prop} {AX : Nat → Prop} (hr : vx_Run p l e R s m args below meth c H locs cells slots mc ms (F0 m pc ls st0) rest (va_Qf post B A1 a) (vx_X px BX AX) free) (hS : va_S A0 H0 H locs) (hA : ∀ q, q < H.size → A1 q → A0 q) (hf : ∀ q, free q → A0 q) (hAX : ∀ q, q < H.size → AX q → A0 q)
    (kx : ∀ (E : String) (ce : Cell) (q9 : Addr) (u : SX) (t : State) (H1 : Heap) (locs1 : List Loc), t.heap = H1 → s.vm.Alike t.vm → px u → BX E u t → H.size ≤ H1.size → (∀ q : Nat, q < H.size → ¬ AX q → H1[q]? = H[q]?) → va_S A0 H0 H1 locs1 → H1[q9]? = some ce → ce.vm = .none → s.vm.findClass E = some ce.cls → vx_W p l e R s m args below meth c H1 locs1 (cells + mc) (slots + ms) Q (F0 m pc ls rest) q9)
    (kk : ∀ (r : UInt32) (u : S) (t : State) (H1 : Heap) (locs1 : List Loc), t.heap = H1 → s.vm.Alike t.vm → post r u → B u t → H.size ≤ H1.size → (∀ q : Nat, q < H.size → ¬ A1 q → H1[q]? = H[q]?) → va_S A0 H0 H1 locs1 → W p l e R s m args below meth c H1 locs1 (cells + mc) (slots + ms) Q (F0 m (pc + 3) ls (.float r :: rest))) : W p l e R s m args below meth c H locs cells slots Q (F0 m pc ls st0) := by
  intro T hT X
  rcases hr T hT X with ⟨v, st₀, t, T', L, h0, X', hL, e1, e2, ⟨⟨r, u, hv, hp, hb⟩, hF⟩, st⟩ | ⟨q, st₀, t, T', L, E, ce, h0, X', hL, e1, e2, ⟨u, hp, hb, hF⟩, hce, hcv, hcl, st⟩
  · cases hv
    obtain ⟨k1, k2, k3⟩ := vx_keep h0 e1 hS hA hf hL hF
    obtain ⟨t2, a1, b1⟩ := kk r u t T'.heap (locs ++ L) e1.symm (by rw [← e2]; exact X'.warmed.alike) hp hb k1 k2 k3 T' rfl X'
    exact ⟨t2, st t2 a1, b1⟩
  · obtain ⟨k1, k2, k3⟩ := vx_keep h0 e1 hS hAX hf hL hF
    obtain ⟨t2, a1, b1⟩ := kx E ce q u t T'.heap (locs ++ L) e1.symm (by rw [← e2]; exact X'.warmed.alike) hp hb k1 k2 k3 (by rw [e1]; exact hce) hcv hcl T' rfl X'
    exact ⟨t2, st.trans a1, b1⟩
theorem vx_calld {S SX : Type} {post : UInt64 → S → Prop} {px : SX → Prop} {B : S → State → Prop} {BX : String → SX → State → Prop} {AX : Nat → Prop} (hr : vx_Run p l e R s m args below meth c H locs cells slots mc ms (F0 m pc ls st0) rest (va_Qd post B A1 a) (vx_X px BX AX) free) (hS : va_S A0 H0 H locs) (hA : ∀ q, q < H.size → A1 q → A0 q) (hf : ∀ q, free q → A0 q) (hAX : ∀ q, q < H.size → AX q → A0 q)
    (kx : ∀ (E : String) (ce : Cell) (q9 : Addr) (u : SX) (t : State) (H1 : Heap) (locs1 : List Loc), t.heap = H1 → s.vm.Alike t.vm → px u → BX E u t → H.size ≤ H1.size → (∀ q : Nat, q < H.size → ¬ AX q → H1[q]? = H[q]?) → va_S A0 H0 H1 locs1 → H1[q9]? = some ce → ce.vm = .none → s.vm.findClass E = some ce.cls → vx_W p l e R s m args below meth c H1 locs1 (cells + mc) (slots + ms) Q (F0 m pc ls rest) q9)
    (kk : ∀ (r : UInt64) (u : S) (t : State) (H1 : Heap) (locs1 : List Loc), t.heap = H1 → s.vm.Alike t.vm → post r u → B u t → H.size ≤ H1.size → (∀ q : Nat, q < H.size → ¬ A1 q → H1[q]? = H[q]?) → va_S A0 H0 H1 locs1 → W p l e R s m args below meth c H1 locs1 (cells + mc) (slots + ms) Q (F0 m (pc + 3) ls (.double r :: rest))) : W p l e R s m args below meth c H locs cells slots Q (F0 m pc ls st0) := by
  intro T hT X
  rcases hr T hT X with ⟨v, st₀, t, T', L, h0, X', hL, e1, e2, ⟨⟨r, u, hv, hp, hb⟩, hF⟩, st⟩ | ⟨q, st₀, t, T', L, E, ce, h0, X', hL, e1, e2, ⟨u, hp, hb, hF⟩, hce, hcv, hcl, st⟩
  · cases hv
    obtain ⟨k1, k2, k3⟩ := vx_keep h0 e1 hS hA hf hL hF
    obtain ⟨t2, a1, b1⟩ := kk r u t T'.heap (locs ++ L) e1.symm (by rw [← e2]; exact X'.warmed.alike) hp hb k1 k2 k3 T' rfl X'
    exact ⟨t2, st t2 a1, b1⟩
  · obtain ⟨k1, k2, k3⟩ := vx_keep h0 e1 hS hAX hf hL hF
    obtain ⟨t2, a1, b1⟩ := kx E ce q u t T'.heap (locs ++ L) e1.symm (by rw [← e2]; exact X'.warmed.alike) hp hb k1 k2 k3 (by rw [e1]; exact hce) hcv hcl T' rfl X'
    exact ⟨t2, st.trans a1, b1⟩
theorem vx_callv {S SX : Type} {post : S → Prop} {px : SX → Prop} {B : S → State → Prop} {BX : String → SX → State → Prop} {AX : Nat → Prop} (hr : vx_Run p l e R s m args below meth c H locs cells slots mc ms (F0 m pc ls st0) rest (va_Qv post B A1 a) (vx_X px BX AX) free) (hS : va_S A0 H0 H locs) (hA : ∀ q, q < H.size → A1 q → A0 q) (hf : ∀ q, free q → A0 q) (hAX : ∀ q, q < H.size → AX q → A0 q)
    (kx : ∀ (E : String) (ce : Cell) (q9 : Addr) (u : SX) (t : State) (H1 : Heap) (locs1 : List Loc), t.heap = H1 → s.vm.Alike t.vm → px u → BX E u t → H.size ≤ H1.size → (∀ q : Nat, q < H.size → ¬ AX q → H1[q]? = H[q]?) → va_S A0 H0 H1 locs1 → H1[q9]? = some ce → ce.vm = .none → s.vm.findClass E = some ce.cls → vx_W p l e R s m args below meth c H1 locs1 (cells + mc) (slots + ms) Q (F0 m pc ls rest) q9)
    (kk : ∀ (u : S) (t : State) (H1 : Heap) (locs1 : List Loc), t.heap = H1 → s.vm.Alike t.vm → post u → B u t → H.size ≤ H1.size → (∀ q : Nat, q < H.size → ¬ A1 q → H1[q]? = H[q]?) → va_S A0 H0 H1 locs1 → W p l e R s m args below meth c H1 locs1 (cells + mc) (slots + ms) Q (F0 m (pc + 3) ls (rest))) : W p l e R s m args below meth c H locs cells slots Q (F0 m pc ls st0) := by
  intro T hT X
  rcases hr T hT X with ⟨v, st₀, t, T', L, h0, X', hL, e1, e2, ⟨⟨u, hv, hp, hb⟩, hF⟩, st⟩ | ⟨q, st₀, t, T', L, E, ce, h0, X', hL, e1, e2, ⟨u, hp, hb, hF⟩, hce, hcv, hcl, st⟩
  · cases hv
    obtain ⟨k1, k2, k3⟩ := vx_keep h0 e1 hS hA hf hL hF
    obtain ⟨t2, a1, b1⟩ := kk u t T'.heap (locs ++ L) e1.symm (by rw [← e2]; exact X'.warmed.alike) hp hb k1 k2 k3 T' rfl X'
    exact ⟨t2, st t2 a1, b1⟩
  · obtain ⟨k1, k2, k3⟩ := vx_keep h0 e1 hS hAX hf hL hF
    obtain ⟨t2, a1, b1⟩ := kx E ce q u t T'.heap (locs ++ L) e1.symm (by rw [← e2]; exact X'.warmed.alike) hp hb k1 k2 k3 (by rw [e1]; exact hce) hcv hcl T' rfl X'
    exact ⟨t2, st.trans a1, b1⟩
/-- caught by the row x of this method's table; the rows ahead don't take it -/
theorem vx_catch {own name : String} {E : String} {ce : Cell} {q : Addr} (hown : s.vm.findClass own = some m.cls) (pre : List ExceptionTableEntry) (x : ExceptionTableEntry) (suf : List ExceptionTableEntry) (hsplit : c.exceptionTable.toList = pre ++ x :: suf)
    (hpass : ∀ z ∈ pre, covers z pc = false ∨ (z.catchType ≠ 0 ∧ ∃ nm : String, (Cond.classLink own z.catchType nm).before args s = true ∧ va_Nc E nm s)) (hx : covers x pc = true) (h0 : x.catchType ≠ 0)
    (hlink : (Cond.classLink own x.catchType name).before args s = true) (hcast : (Cond.castable E name).before args s = true) (hcell : H[q]? = some ce) (hv : ce.vm = .none) (hcl : s.vm.findClass E = some ce.cls)
    (kk : W p l e R s m args below meth c H locs cells slots Q (F0 m x.handlerPc ls [.ref q])) : vx_W p l e R s m args below meth c H locs cells slots Q (F0 m pc ls rest) q := by
  intro T hT X
  have hpl : e.platform.magicAccessors = ({} : Platform).magicAccessors := by rw [X.admits.platform]
  obtain ⟨c3, c4, hc3, hc4, hasg⟩ := Cond.castable_spec hcast
  cases Option.some.inj (hc3.symm.trans hcl)
  obtain ⟨c5, hc5, hcl5⟩ := Cond.classLink_spec hown hlink e.platform hpl
  cases Option.some.inj (hc4.symm.trans hc5)
  obtain ⟨vm', X', st⟩ := X.thenCaughtThrough q (g := F0 m pc ls rest) rfl (Steps.refl _) (by rw [hT]; exact hcell) (by rw [hv]; rfl) (by obtain ⟨k9, h9, -⟩ := Vm.findClass_spec hcl; exact ⟨k9, h9⟩) pre x suf hsplit
    (fun z hz => by
      rcases hpass z hz with h | ⟨hz0, nm, hl1, hn1⟩
      · exact Or.inl h
      · obtain ⟨c6, hc6, hcl6⟩ := Cond.classLink_spec hown hl1 e.platform hpl
        obtain ⟨a8, b8, h1, h2, h3⟩ := hn1
        cases Option.some.inj (h1.symm.trans hcl)
        cases Option.some.inj (h2.symm.trans hc6)
        exact Or.inr ⟨hz0, _, hcl6, h3⟩) hx (Or.inr ⟨h0, c4, hcl5, hasg⟩)
  obtain ⟨t, a1, b1⟩ := kk (T.setVm vm') hT X'
  exact ⟨t, st.trans a1, b1⟩
end Rows
section Ends
variable {p : Program} {l : Launch} {e : Env} {R : Room} {s : State} {m : MethodId} {args : Array Value} {below : List Frame} {meth : Method} {c : Code} {H : Heap} {locs : List Loc} {cells slots : Nat} {Q : State → Prop}
variable {mc ms : Nat} {free : Addr → Prop} {A0 A1 : Nat → Prop} {H0 : Heap} {a : Array Value} {ls : Array Slot} {st0 rest : List Value}
variable {Qc : Array Value → State → Outcome → State → Prop} {XC : String → State → State → Prop}
/-- what a body that may throw owes at its end -/
def vx_MQ (below : List Frame) (Qc : Array Value → State → Outcome → State → Prop) (XC : String → State → State → Prop) (a : Array Value) (s : State) (mc ms : Nat) (free : Addr → Prop) : State → Prop := fun t =>
  ∃ o, t.status = .running ∧ Ended t below o ∧ vx_Q Qc XC mc ms free a s o t
theorem vx_ret {g : JFrame} {mc ms : Nat} (k : W p l e R s m args below meth c H locs cells slots (MQ below Qc args s mc ms free) g) : W p l e R s m args below meth c H locs cells slots (vx_MQ below Qc XC args s mc ms free) g := by
  intro T hT X
  obtain ⟨t, a1, o, b1, b2, b3, b4⟩ := k T hT X
  exact ⟨t, a1, o, b1, b2, Or.inl ⟨b3, b4⟩⟩
/-- not caught here: it goes on to the caller -/
theorem vx_widen {g : JFrame} {q : Addr} {k n : Nat} (h1 : cells ≤ k) (h2 : slots ≤ n) (kk : vx_W p l e R s m args below meth c H locs k n Q g q) : vx_W p l e R s m args below meth c H locs cells slots Q g q := fun T hT X => kk T hT (stand_widen X h1 h2)
theorem vx_out {pc : Nat} {E : String} {ce : Cell} {q : Addr} {mc ms : Nat} (hout : ∀ x ∈ c.exceptionTable.toList, covers x pc = false) (hlocks : meth.locks = false) (hcell : H[q]? = some ce) (hv : ce.vm = .none) (hcl : s.vm.findClass E = some ce.cls)
    (hx : ∀ t : State, t.heap = H → s.vm.Alike t.vm → XC E s t) (hf : ∀ z ∈ locs, free z.base) (hc : cells ≤ mc) (hs : slots ≤ ms) :
    vx_W p l e R s m args below meth c H locs cells slots (vx_MQ below Qc XC args s mc ms free) (F0 m pc ls rest) q := by
  intro T hT X
  obtain ⟨st1, hrun, hend, hW, hsm⟩ := X.leaveThrown q (g := F0 m pc ls rest) rfl rfl rfl hout hlocks
  have hcell9 : (T.setFrames (.throwing q :: below)).heap[q]? = some ce := by
    show T.heap[q]? = some ce
    rw [hT]; exact hcell
  exact ⟨_, st1, .threw q, hrun, hend, Or.inr ⟨q, rfl, E, ce, locs, hx _ hT hW.alike, hcell9, hv, hcl, hW, hsm.mono hc hs, hf⟩⟩
theorem vx_frame {U : State} {k n : Nat} (h : s.sameButNew ({ U with vm := s.vm } : State) locs k n) : s.heap.size ≤ U.heap.size ∧ ∀ q : Nat, q < s.heap.size → (∀ z ∈ locs, z.base ≠ q) → U.heap[q]? = s.heap[q]? := by
  obtain ⟨-, h2, -, -, -, h6⟩ := h
  refine ⟨h2, fun q hq hz => ?_⟩
  obtain ⟨c9, e1, e2, e3, e4⟩ := h6 q _ (Array.getElem?_eq_getElem hq)
  have hs : c9.slots = (s.heap[q]).slots := Array.ext_getElem? fun i => e4 i fun hm => hz _ hm rfl
  have h9 : c9 = s.heap[q] := by
    rw [hs] at e2
    exact e2
  have e5 : U.heap[q]? = some c9 := e1
  rw [e5, h9, Array.getElem?_eq_getElem hq]
/-- the words of a throw but the four that speak of the heap -/
def vx_no (w : Cond) : Bool := decide (w ≠ .isRef (.static Bundle.tN "UNASSIGNED_STACK" Bundle.steD)) && decide (w ≠ .isRef (.static Bundle.tN "SUPPRESSED_SENTINEL" Bundle.listD)) && decide (w ≠ .laysStatic Bundle.tN "UNASSIGNED_STACK" Bundle.steD) && decide (w ≠ .laysStatic Bundle.tN "SUPPRESSED_SENTINEL" Bundle.listD)
def vx_at0 (own : String) (ic : Nat) (X : String) (names : List String) : List Cond := (Bundle.ownAtoms0 own ic X names).filter vx_no
def vx_atS (own : String) (ic : Nat) (X : String) (names : List String) : List Cond := (Bundle.ownAtoms own ic X names).filter vx_no
/-- a word that the tables alone decide, or a good one -/
def vx_ot (w : Cond) : Bool := w.onTables || goodWord w
theorem vx_ot_at {args a' : Array Value} {s U : State} {w : Cond} (hW : s.WarmedH U.vm) (hvm : s.vm = U.vm) (hg : vx_ot w = true) (h : w.before args s = true) : w.before a' U = true := by
  simp only [vx_ot, Bool.or_eq_true] at hg
  rcases hg with hg | hg
  · exact va_tabs hg hvm h
  · exact word_at hW (good_of_word hg) h
/-- a list's words: the good ones out of the method's own list, the others by premises of their own -/
theorem vx_hat {args : Array Value} {s : State} {L B : List Cond} (h1 : ∀ w ∈ L.filter goodWord, w.before args s = true) (h2 : ∀ w ∈ L.filter (fun w => !goodWord w), w ∈ B) (h3 : ∀ w ∈ B, w.before args s = true) : ∀ w ∈ L, w.before args s = true := by
  intro w hw
  by_cases g : goodWord w = true
  · exact h1 w (List.mem_filter.mpr ⟨hw, g⟩)
  · refine h3 w (h2 w (List.mem_filter.mpr ⟨hw, ?_⟩))
    show (!goodWord w) = true
    cases hgw : goodWord w
    · rfl
    · exact absurd hgw g
theorem vx_c {args : Array Value} {s : State} {w : Cond} {B : List Cond} (h : w.before args s = true) (t : ∀ w ∈ B, w.before args s = true) : ∀ w' ∈ w :: B, w'.before args s = true := fun w' h' => (List.mem_cons.mp h').elim (fun e => by rw [e]; exact h) (t w')
theorem vx_n {args : Array Value} {s : State} : ∀ w ∈ ([] : List Cond), w.before args s = true := fun _ h => nomatch h
theorem vx_own {args : Array Value} {s : State} {L : List Cond} (h1 : ∀ w ∈ L.filter vx_no, w.before args s = true)
    (hU : (Cond.isRef (.static Bundle.tN "UNASSIGNED_STACK" Bundle.steD)).before args s = true) (hN : (Cond.isRef (.static Bundle.tN "SUPPRESSED_SENTINEL" Bundle.listD)).before args s = true)
    (lU : (Cond.laysStatic Bundle.tN "UNASSIGNED_STACK" Bundle.steD).before args s = true) (lN : (Cond.laysStatic Bundle.tN "SUPPRESSED_SENTINEL" Bundle.listD).before args s = true) : ∀ w ∈ L, w.before args s = true := by
  intro w hw
  by_cases e1 : w = .isRef (.static Bundle.tN "UNASSIGNED_STACK" Bundle.steD)
  · rw [e1]; exact hU
  · by_cases e2 : w = .isRef (.static Bundle.tN "SUPPRESSED_SENTINEL" Bundle.listD)
    · rw [e2]; exact hN
    · by_cases e3 : w = .laysStatic Bundle.tN "UNASSIGNED_STACK" Bundle.steD
      · rw [e3]; exact lU
      · by_cases e4 : w = .laysStatic Bundle.tN "SUPPRESSED_SENTINEL" Bundle.listD
        · rw [e4]; exact lN
        · exact h1 w (List.mem_filter.mpr ⟨hw, by unfold vx_no; rw [decide_eq_true e1, decide_eq_true e2, decide_eq_true e3, decide_eq_true e4]; rfl⟩)
/-- where a static field lies, its class's statics cell in H -/
def vx_L (C n d : String) (A : Nat → Prop) (U : State) (H : Heap) : Prop := ∃ (c : ClassId) (k : Class) (i : Nat) (f : Field) (a : Nat) (cell : Cell), U.vm.findClass C = some c ∧ U.fieldFound? C n d = some (c, k, i, f) ∧ f.isStatic = true ∧ k.statics = some a ∧ H[a]? = some cell ∧ cell.vm.isStatics = true ∧ cell.cls = c ∧ f.slot < cell.slots.size ∧ k.staticTypes[f.slot]? = some f.type ∧ ¬ A a
theorem vx_L.moved {C n d : String} {A : Nat → Prop} {u U : State} {H : Heap} (hvm : u.vm.Alike U.vm) (h : vx_L C n d A u H) : vx_L C n d A U H := by
  obtain ⟨c, k, i, f, a, cell, h1, h2, h3, h4, h5, h6, h7, h8, h9, h10⟩ := h
  obtain ⟨k', hi', he⟩ := State.fieldFound?_setVm hvm h2
  exact ⟨c, k', i, f, a, cell, by rw [hvm.findClass]; exact h1, hi', h3, by rw [he]; exact h4, h5, h6, h7, h8, by rw [he]; exact h9, h10⟩
theorem vx_L.kept {C n d : String} {A : Nat → Prop} {U : State} {H H1 : Heap} (h : vx_L C n d A U H) (hq : ∀ a : Nat, a < H.size → ¬ A a → H1[a]? = H[a]?) : vx_L C n d A U H1 := by
  obtain ⟨c, k, i, f, a, cell, h1, h2, h3, h4, h5, h6, h7, h8, h9, h10⟩ := h
  exact ⟨c, k, i, f, a, cell, h1, h2, h3, h4, by rw [hq a (Array.getElem?_eq_some_iff.mp h5).1 h10]; exact h5, h6, h7, h8, h9, h10⟩
theorem vx_L.narrow {C n d : String} {A B : Nat → Prop} {U : State} {H : Heap} (h : vx_L C n d A U H) (hAB : ∀ q, B q → A q) : vx_L C n d B U H := by
  obtain ⟨c, k, i, f, a, cell, h1, h2, h3, h4, h5, h6, h7, h8, h9, h10⟩ := h
  exact ⟨c, k, i, f, a, cell, h1, h2, h3, h4, h5, h6, h7, h8, h9, fun z => h10 (hAB _ z)⟩
theorem vx_L.word {C n d : String} {A : Nat → Prop} {s : State} {args : Array Value} (h : vx_L C n d A s s.heap) : (Cond.laysStatic C n d).before args s = true := by
  obtain ⟨c, k, i, f, a, cell, h1, h2, h3, h4, h5, h6, h7, h8, h9, -⟩ := h
  show (Cond.laysStatic C n d).holds args s none s [] = true
  exact Cond.laysStatic_of h1 h2 h3 h4 h5 h6 h7 h8 h9
/-- .. and what it holds: null or some reference -/
def vx_Zq (C n d : String) (A : Nat → Prop) (U : State) (H : Heap) : Prop := va_Zq C n d A U H ∧ vx_L C n d A U H
theorem vx_Zq.moved {C n d : String} {A : Nat → Prop} {u U : State} {H : Heap} (hvm : u.vm.Alike U.vm) (h : vx_Zq C n d A u H) : vx_Zq C n d A U H := ⟨va_Zq.moved hvm h.1, vx_L.moved hvm h.2⟩
theorem vx_Zq.kept {C n d : String} {A : Nat → Prop} {U : State} {H H1 : Heap} (h : vx_Zq C n d A U H) (hq : ∀ a : Nat, a < H.size → ¬ A a → H1[a]? = H[a]?) : vx_Zq C n d A U H1 := ⟨va_Zq.kept h.1 hq, vx_L.kept h.2 hq⟩
theorem vx_Zq.narrow {C n d : String} {A B : Nat → Prop} {U : State} {H : Heap} (h : vx_Zq C n d A U H) (hAB : ∀ q, B q → A q) : vx_Zq C n d B U H := ⟨va_Zq.narrow h.1 hAB, vx_L.narrow h.2 hAB⟩
theorem vx_Zqof {args : Array Value} {s : State} {C n d : String} {A : Nat → Prop} (hl : (Cond.laysStatic C n d).before args s = true) (hini : (Cond.initialized C).before args s = true) (h : (Cond.isRef (.static C n d)).before args s = true) (hA : ∀ a : Nat, a < s.heap.size → ¬ A a) : vx_Zq C n d A s s.heap := by
  refine ⟨va_Zqof hl hini h hA, ?_⟩
  obtain ⟨c, k, i, f, a, cell, h1, h2, h3, h4, h5, h6, h7, h8, h9⟩ := Cond.laysStatic_spec hl
  exact ⟨c, k, i, f, a, cell, h1, h2, h3, h4, h5, h6, h7, h8, h9, hA a (Array.getElem?_eq_some_iff.mp h5).1⟩
theorem vx_isRef {C n d : String} {v : Value} {A : Nat → Prop} {s : State} {args : Array Value} (h : va_Z C n d v A s s.heap) (hv : v.isRef = true) : (Cond.isRef (.static C n d)).before args s = true := by
  obtain ⟨cf, kf, fi, f, a, cell, h1, h2, h3, h4, h5, h6, h7, -⟩ := h
  have he : (Term.static C n d).eval args s none [] s = some v := by
    simp [Term.eval, State.fieldNamed?, h1, h2, h4, h5, h6, h7]
  simp only [Cond.before, Cond.holds, Cond.value, he]
  cases v <;> simp_all [Value.isRef]
theorem vx_isRefq {C n d : String} {A : Nat → Prop} {s : State} {args : Array Value} (h : va_Zq C n d A s s.heap) : (Cond.isRef (.static C n d)).before args s = true := by
  rcases h with h | ⟨t, h⟩
  · exact vx_isRef h rfl
  · exact vx_isRef h rfl
/-- the same frame, seen from here: as if the method were called anew in this heap -/
theorem vx_rebase {T : State} (X : Stand p l e R s m args below meth c T locs cells slots) {R' : Room} (hf : R'.frames ≤ R.frames) (hl : R'.locals ≤ R.locals) (hc : cells + R'.cells ≤ R.cells) (hs : slots + R'.slots ≤ R.slots) :
    Stand p l e R' ((T.setVm s.vm).setFrames (.invoking m args :: below)) m args below meth c T [] 0 0 := by
  have htop : (T.setVm s.vm).topJava?.isSome := X.here.top
  have hF : ((T.setVm s.vm).setFrames (.invoking m args :: below)).frames = .invoking m args :: below := State.frames_setFrames _ (State.cur_lt_of_top htop)
  obtain ⟨g₀, hg0⟩ := Option.isSome_iff_exists.mp htop
  obtain ⟨r, hr⟩ := State.topJava?_eq_some.mp hg0
  have hl9 : e.platform.stackLimits (T.setVm s.vm).me = e.platform.stackLimits s.me := X.limits
  have hb9 : (T.setVm s.vm).me.stackBytes = s.me.stackBytes := X.bytes
  refine ⟨X.admits, X.cas, X.clock, hF, ?_, X.hears, X.method, X.code, X.here, X.tail, X.warmed, ?_, ?_, ?_⟩
  · have h := X.room
    have hU : ((T.setVm s.vm).setFrames (.invoking m args :: below)).localsInUse = s.localsInUse := by
      rw [State.localsInUse_invoking hF (meth := meth) (c := c) X.method X.code, State.localsInUse_invoking X.frames X.method X.code]
    simp only [State.hasRoom, Bool.and_eq_true, decide_eq_true_eq] at h ⊢
    obtain ⟨⟨⟨⟨h1, h2, h3, h4, h5, h6⟩, h7⟩, h8⟩, h9⟩ := h
    rw [X.frames, List.length_cons] at h2 h3
    have q1 := X.heapSize
    have q2 := X.used
    simp only [hF, hU, List.length_cons, State.stackLimits_setFrames, State.stackBytes_setFrames, hl9, hb9]
    refine ⟨⟨⟨⟨by omega, by omega, by omega, by omega, by omega, h6⟩, ?_⟩, ?_⟩, X.book⟩
    · show T.heap.size + R'.cells ≤ e.platform.maxCells
      omega
    · show T.slotsUsed + R'.slots ≤ e.platform.maxSlots
      omega
  · rw [State.stackLimits_setFrames]; rfl
  · rw [State.stackBytes_setFrames]; rfl
  · refine ⟨?_, Nat.le_refl _, Nat.le_refl _, ?_, ?_, fun a c9 h9 => ⟨c9, h9, rfl, rfl, fun _ _ => rfl⟩⟩
    · obtain ⟨t, ht, -⟩ := State.frames_cons hr
      show T.setVm s.vm = { ((T.setVm s.vm).setFrames (.invoking m args :: below)).setFrames (T.setVm s.vm).frames with heap := T.heap, slotsUsed := T.slotsUsed }
      rw [State.setFrames_setFrames, State.setFrames_self ht]
      rfl
    · show T.slotsUsed = T.slotsUsed + ((T.heap.toList.drop T.heap.size).map (·.slots.size)).sum
      rw [List.drop_eq_nil_of_le (Nat.le_of_eq Array.length_toList)]
      rfl
    · show ((T.heap.toList.drop T.heap.size).map (·.slots.size)).sum ≤ 0
      rw [List.drop_eq_nil_of_le (Nat.le_of_eq Array.length_toList)]
      exact Nat.le_refl _
/-- 'throw new E()': new; dup; invokespecial; athrow -/
theorem vx_throw0 {cc : ByteArray} {pc : Nat} (hexec : p.tables.exec = Jvm.exec) (hb : c.code = cc) (hl : l.stackTraces = false) {own cls : String} {names : List String} {ik ic mc ms : Nat} {A : Nat → Prop}
    (hown : s.vm.findClass own = some m.cls) (hcls : Bundle.fit cls = true) (hnames : ∀ n ∈ names, Bundle.fit n = true)
    (hk : (Cond.classLink own ik cls).before args s = true) (hini : (Cond.initialized cls).before args s = true) (hat : ∀ w ∈ vx_at0 own ic cls names, w.before args s = true)
    (hgood : ∀ w ∈ Cond.classLink own ik cls :: Cond.initialized cls :: vx_at0 own ic cls names, vx_ot w = true)
    (hU : vx_Zq Bundle.tN "UNASSIGNED_STACK" Bundle.steD A s s.heap) (hN : vx_Zq Bundle.tN "SUPPRESSED_SENTINEL" Bundle.listD A s s.heap) (hS : va_S A s.heap H locs) (hsize : ls.size = c.maxLocals)
    (d0 : decode cc pc = .ok (.new ik, 3)) (d3 : decode cc (pc + 3) = .ok (.dup, 1)) (d4 : decode cc (pc + 4) = .ok (.invokespecial ic, 3)) (d7 : decode cc (pc + 7) = .ok (.athrow, 1))
    (hout : ∀ x ∈ c.exceptionTable.toList, covers x (pc + 7) = false)
    (hRframes : names.length + 3 < R.frames) (hRlocals : (rest.map fun v => v.category).sum + (13 * (names.length + 1) + 42) ≤ R.locals) (hRcells : cells + 1 ≤ R.cells) (hRslots : slots + 6 ≤ R.slots) (hlocks : meth.locks = false)
    (hx : ∀ t : State, s.vm.Alike t.vm → H.size ≤ t.heap.size → (∀ q : Nat, q < H.size → t.heap[q]? = H[q]?) → XC cls s t)
    (hf : ∀ z ∈ locs, free z.base) (hc : cells + 1 ≤ mc) (hs : slots + 6 ≤ ms) :
    W p l e R s m args below meth c H locs cells slots (vx_MQ below Qc XC args s mc ms free) (F0 m pc ls rest) := by
  intro T hT X
  have htr : e.platform.stackTraces = false := (show e.platform.stackTraces = l.stackTraces by rw [X.admits.platform]).trans hl
  have Y := vx_rebase X (R' := { frames := R.frames, locals := R.locals, cells := 1, slots := 6 }) (Nat.le_refl _) (Nat.le_refl _) hRcells hRslots
  obtain ⟨s', hA⟩ : ∃ z, z = (T.setVm s.vm).setFrames (.invoking m args :: below) := ⟨_, rfl⟩
  rw [← hA] at Y
  have hvm : s'.vm = s.vm := by rw [hA]; rfl
  have hhp : s'.heap = H := by rw [hA]; exact hT
  have hW0 : s.WarmedH s'.vm := by rw [hvm]; exact State.WarmedH.refl s
  have hat' : ∀ w ∈ vx_at0 own ic cls names, w.before args s' = true := fun w hw => vx_ot_at hW0 hvm.symm (hgood w (List.mem_cons_of_mem _ (List.mem_cons_of_mem _ hw))) (hat w hw)
  have hk' : (Cond.classLink own ik cls).before args s' = true := vx_ot_at hW0 hvm.symm (hgood _ List.mem_cons_self) hk
  have hini' : (Cond.initialized cls).before args s' = true := vx_ot_at hW0 hvm.symm (hgood _ (List.mem_cons_of_mem _ List.mem_cons_self)) hini
  have hU' : vx_Zq Bundle.tN "UNASSIGNED_STACK" Bundle.steD A s' s'.heap := by rw [hhp]; exact vx_Zq.moved hW0.alike (hU.kept hS.2.1)
  have hN' : vx_Zq Bundle.tN "SUPPRESSED_SENTINEL" Bundle.listD A s' s'.heap := by rw [hhp]; exact vx_Zq.moved hW0.alike (hN.kept hS.2.1)
  have h : ∀ w ∈ Bundle.ownAtoms0 own ic cls names, w.before args s' = true := vx_own hat' (vx_isRefq hU'.1) (vx_isRefq hN'.1) hU'.2.word hN'.2.word
  have hown' : s'.vm.findClass own = some m.cls := by rw [hvm]; exact hown
  have hins : (Cond.instantiable cls 6).before args s' = true := h _ (by simp [Bundle.ownAtoms0])
  obtain ⟨vm₁, cX, kX, hfX, hkX, -, -, X₁, st1⟩ := Y.newCold hexec (own := own) (C := cls) (index := ik) (n := 6) hown' hk' hins hini'
    (g := F0 m pc ls rest) rfl (by rw [hb]; exact d0) (Nat.le_refl _) (Nat.le_refl _)
  generalize hT1 : (T.setVm vm₁).pushCell { cls := cX, slots := kX.instanceTypes.map defaultValue, vm := .none } = T1 at X₁ st1
  have hcat : (Value.ref T.heap.size).category = 1 := rfl
  have hcellA : T1.heap[T.heap.size]? = some (freshCell cX kX) := by rw [← hT1]; exact State.heap_pushCell_size _ _
  have d3' : decode c.code (pc + 3) = .ok (.dup, 1) := by rw [hb]; exact d3
  obtain ⟨U, hsteps, hrun, hend, hW, hsame, ce, hce, hO⟩ := X₁.ctorThrow0 hexec htr (own := own) (cls := cls) (names := names) (ic := ic) hown' hcls hnames h (fun x hx => nomatch hx) hfX hkX hcellA (by rw [hhp, hT]; exact Nat.le_refl _)
    (g := { method := m, pc := pc + 4, locals := ls, stack := .ref T.heap.size :: .ref T.heap.size :: rest, locked := none }) rfl hsize rfl rfl (rest := rest) rfl
    (by rw [hb]; exact d4) (by rw [hb]; exact d7) hout hRframes (by simp only [List.map_cons, List.sum_cons, hcat]; omega) hlocks
  obtain ⟨f1, f2⟩ := vx_frame hsame
  rw [hhp] at f1 f2
  have hWs : s.WarmedH U.vm := State.WarmedH.trans hW0 hW
  have hcl : s.vm.findClass cls = some ce.cls := by
    have h9 := hO.cls
    rw [hvm] at h9
    exact h9
  have hall : s.sameButNew ({ U with vm := s.vm } : State) locs mc ms := by
    subst hA
    obtain ⟨e1, e2⟩ := hsame
    rw [State.setFrames_setFrames] at e1
    have h2 : (T.setVm s.vm).sameButNew ({ U with vm := s.vm } : State) [] (0 + 1) (0 + 6) := ⟨e1, e2⟩
    have h3 := X.same.trans h2
    rw [List.append_nil] at h3
    exact h3.mono hc hs
  refine ⟨U, ?_, .threw T.heap.size, hrun, hend, Or.inr ⟨T.heap.size, rfl, cls, ce, locs, hx U hWs.alike f1 (fun q hq => f2 q hq (fun z hz => nomatch hz)), hce, hO.vm, hcl, hWs, hall, hf⟩⟩
  refine st1 _ ?_
  show Steps p.tables e below (T1.setTop { method := m, pc := pc + 3, locals := ls, stack := .ref T.heap.size :: rest, locked := none }) _
  jvm_step X₁.here [X₁.here.top, hexec, d3', Value.category]
  exact hsteps
/-- 'throw new E("text")': new; dup; ldc; invokespecial; athrow -/
theorem vx_throwS {cc : ByteArray} {pc : Nat} (hexec : p.tables.exec = Jvm.exec) (hb : c.code = cc) (hl : l.stackTraces = false) {own cls text : String} {names : List String} {ik is ic mc ms sa : Nat} {A : Nat → Prop}
    (hown : s.vm.findClass own = some m.cls) (hcls : Bundle.fit cls = true) (hnames : ∀ n ∈ names, Bundle.fit n = true)
    (hk : (Cond.classLink own ik cls).before args s = true) (hini : (Cond.initialized cls).before args s = true) (hstr : vk_R own is text sa s) (hat : ∀ w ∈ vx_atS own ic cls names, w.before args s = true)
    (hgood : ∀ w ∈ Cond.classLink own ik cls :: Cond.initialized cls :: vx_atS own ic cls names, vx_ot w = true)
    (hU : vx_Zq Bundle.tN "UNASSIGNED_STACK" Bundle.steD A s s.heap) (hN : vx_Zq Bundle.tN "SUPPRESSED_SENTINEL" Bundle.listD A s s.heap) (hS : va_S A s.heap H locs) (hsize : ls.size = c.maxLocals)
    (d0 : decode cc pc = .ok (.new ik, 3)) (d3 : decode cc (pc + 3) = .ok (.dup, 1)) (d4 : decode cc (pc + 4) = .ok (.ldc is, 2)) (d6 : decode cc (pc + 6) = .ok (.invokespecial ic, 3)) (d9 : decode cc (pc + 9) = .ok (.athrow, 1))
    (hout : ∀ x ∈ c.exceptionTable.toList, covers x (pc + 9) = false)
    (hRframes : names.length + 3 < R.frames) (hRlocals : (rest.map fun v => v.category).sum + (13 * (names.length + 1) + 43) ≤ R.locals) (hRcells : cells + 1 ≤ R.cells) (hRslots : slots + 6 ≤ R.slots) (hlocks : meth.locks = false)
    (hx : ∀ t : State, s.vm.Alike t.vm → H.size ≤ t.heap.size → (∀ q : Nat, q < H.size → t.heap[q]? = H[q]?) → XC cls s t)
    (hf : ∀ z ∈ locs, free z.base) (hc : cells + 1 ≤ mc) (hs : slots + 6 ≤ ms) :
    W p l e R s m args below meth c H locs cells slots (vx_MQ below Qc XC args s mc ms free) (F0 m pc ls rest) := by
  intro T hT X
  have htr : e.platform.stackTraces = false := (show e.platform.stackTraces = l.stackTraces by rw [X.admits.platform]).trans hl
  have Y := vx_rebase X (R' := { frames := R.frames, locals := R.locals, cells := 1, slots := 6 }) (Nat.le_refl _) (Nat.le_refl _) hRcells hRslots
  obtain ⟨s', hA⟩ : ∃ z, z = (T.setVm s.vm).setFrames (.invoking m args :: below) := ⟨_, rfl⟩
  rw [← hA] at Y
  have hvm : s'.vm = s.vm := by rw [hA]; rfl
  have hhp : s'.heap = H := by rw [hA]; exact hT
  have hW0 : s.WarmedH s'.vm := by rw [hvm]; exact State.WarmedH.refl s
  have hat' : ∀ w ∈ vx_atS own ic cls names, w.before args s' = true := fun w hw => vx_ot_at hW0 hvm.symm (hgood w (List.mem_cons_of_mem _ (List.mem_cons_of_mem _ hw))) (hat w hw)
  have hk' : (Cond.classLink own ik cls).before args s' = true := vx_ot_at hW0 hvm.symm (hgood _ List.mem_cons_self) hk
  have hini' : (Cond.initialized cls).before args s' = true := vx_ot_at hW0 hvm.symm (hgood _ (List.mem_cons_of_mem _ List.mem_cons_self)) hini
  have hU' : vx_Zq Bundle.tN "UNASSIGNED_STACK" Bundle.steD A s' s'.heap := by rw [hhp]; exact vx_Zq.moved hW0.alike (hU.kept hS.2.1)
  have hN' : vx_Zq Bundle.tN "SUPPRESSED_SENTINEL" Bundle.listD A s' s'.heap := by rw [hhp]; exact vx_Zq.moved hW0.alike (hN.kept hS.2.1)
  have h : ∀ w ∈ Bundle.ownAtoms own ic cls names, w.before args s' = true := vx_own hat' (vx_isRefq hU'.1) (vx_isRefq hN'.1) hU'.2.word hN'.2.word
  have hown' : s'.vm.findClass own = some m.cls := by rw [hvm]; exact hown
  have hins : (Cond.instantiable cls 6).before args s' = true := h _ (by simp [Bundle.ownAtoms])
  obtain ⟨vm₁, cX, kX, hfX, hkX, -, -, X₁, st1⟩ := Y.newCold hexec (own := own) (C := cls) (index := ik) (n := 6) hown' hk' hins hini'
    (g := F0 m pc ls rest) rfl (by rw [hb]; exact d0) (Nat.le_refl _) (Nat.le_refl _)
  generalize hT1 : (T.setVm vm₁).pushCell { cls := cX, slots := kX.instanceTypes.map defaultValue, vm := .none } = T1 at X₁ st1
  have hcat : (Value.ref T.heap.size).category = 1 := rfl
  have hcellA : T1.heap[T.heap.size]? = some (freshCell cX kX) := by rw [← hT1]; exact State.heap_pushCell_size _ _
  have d3' : decode c.code (pc + 3) = .ok (.dup, 1) := by rw [hb]; exact d3
  have d4' : decode c.code (pc + 4) = .ok (.ldc is, 2) := by rw [hb]; exact d4
  have hstr' : vk_R own is text sa s' := vk_R.warm hW0 hstr
  obtain ⟨U, hsteps, hrun, hend, hW, hsame, ce, hce, hO⟩ := X₁.ctorThrowS hexec htr (own := own) (cls := cls) (names := names) (ic := ic) hown' hcls hnames h (fun x hx => nomatch hx) hfX hkX hcellA (by rw [hhp, hT]; exact Nat.le_refl _) (msg := .ref sa) rfl
    (g := { method := m, pc := pc + 6, locals := ls, stack := .ref sa :: .ref T.heap.size :: .ref T.heap.size :: rest, locked := none }) rfl hsize rfl rfl (rest := rest) rfl
    (by rw [hb]; exact d6) (by rw [hb]; exact d9) hout hRframes (by simp only [List.map_cons, List.sum_cons, hcat]; omega) hlocks
  obtain ⟨f1, f2⟩ := vx_frame hsame
  rw [hhp] at f1 f2
  have hWs : s.WarmedH U.vm := State.WarmedH.trans hW0 hW
  have hcl : s.vm.findClass cls = some ce.cls := by
    have h9 := hO.cls
    rw [hvm] at h9
    exact h9
  have hall : s.sameButNew ({ U with vm := s.vm } : State) locs mc ms := by
    subst hA
    obtain ⟨e1, e2⟩ := hsame
    rw [State.setFrames_setFrames] at e1
    have h2 : (T.setVm s.vm).sameButNew ({ U with vm := s.vm } : State) [] (0 + 1) (0 + 6) := ⟨e1, e2⟩
    have h3 := X.same.trans h2
    rw [List.append_nil] at h3
    exact h3.mono hc hs
  refine ⟨U, ?_, .threw T.heap.size, hrun, hend, Or.inr ⟨T.heap.size, rfl, cls, ce, locs, hx U hWs.alike f1 (fun q hq => f2 q hq (fun z hz => nomatch hz)), hce, hO.vm, hcl, hWs, hall, hf⟩⟩
  refine st1 _ ?_
  show Steps p.tables e below (T1.setTop { method := m, pc := pc + 3, locals := ls, stack := .ref T.heap.size :: rest, locked := none }) _
  jvm_step X₁.here [X₁.here.top, hexec, d3', Value.category]
  exact X₁.ldcString hexec (own := own) (text := text) (index := is) (a := sa) hown' hstr'.1 hstr'.2
    (g := { method := m, pc := pc + 4, locals := ls, stack := .ref T.heap.size :: .ref T.heap.size :: rest, locked := none }) rfl d4' _ hsteps
/-- 'throw new E("text")', the text by a wide index -/
theorem vx_throwSW {cc : ByteArray} {pc : Nat} (hexec : p.tables.exec = Jvm.exec) (hb : c.code = cc) (hl : l.stackTraces = false) {own cls text : String} {names : List String} {ik is ic mc ms sa : Nat} {A : Nat → Prop}
    (hown : s.vm.findClass own = some m.cls) (hcls : Bundle.fit cls = true) (hnames : ∀ n ∈ names, Bundle.fit n = true)
    (hk : (Cond.classLink own ik cls).before args s = true) (hini : (Cond.initialized cls).before args s = true) (hstr : vk_R own is text sa s) (hat : ∀ w ∈ vx_atS own ic cls names, w.before args s = true)
    (hgood : ∀ w ∈ Cond.classLink own ik cls :: Cond.initialized cls :: vx_atS own ic cls names, vx_ot w = true)
    (hU : vx_Zq Bundle.tN "UNASSIGNED_STACK" Bundle.steD A s s.heap) (hN : vx_Zq Bundle.tN "SUPPRESSED_SENTINEL" Bundle.listD A s s.heap) (hS : va_S A s.heap H locs) (hsize : ls.size = c.maxLocals)
    (d0 : decode cc pc = .ok (.new ik, 3)) (d3 : decode cc (pc + 3) = .ok (.dup, 1)) (d4 : decode cc (pc + 4) = .ok (.ldc_w is, 3)) (d7 : decode cc (pc + 7) = .ok (.invokespecial ic, 3)) (d10 : decode cc (pc + 10) = .ok (.athrow, 1))
    (hout : ∀ x ∈ c.exceptionTable.toList, covers x (pc + 10) = false)
    (hRframes : names.length + 3 < R.frames) (hRlocals : (rest.map fun v => v.category).sum + (13 * (names.length + 1) + 43) ≤ R.locals) (hRcells : cells + 1 ≤ R.cells) (hRslots : slots + 6 ≤ R.slots) (hlocks : meth.locks = false)
    (hx : ∀ t : State, s.vm.Alike t.vm → H.size ≤ t.heap.size → (∀ q : Nat, q < H.size → t.heap[q]? = H[q]?) → XC cls s t)
    (hf : ∀ z ∈ locs, free z.base) (hc : cells + 1 ≤ mc) (hs : slots + 6 ≤ ms) :
    W p l e R s m args below meth c H locs cells slots (vx_MQ below Qc XC args s mc ms free) (F0 m pc ls rest) := by
  intro T hT X
  have htr : e.platform.stackTraces = false := (show e.platform.stackTraces = l.stackTraces by rw [X.admits.platform]).trans hl
  have Y := vx_rebase X (R' := { frames := R.frames, locals := R.locals, cells := 1, slots := 6 }) (Nat.le_refl _) (Nat.le_refl _) hRcells hRslots
  obtain ⟨s', hA⟩ : ∃ z, z = (T.setVm s.vm).setFrames (.invoking m args :: below) := ⟨_, rfl⟩
  rw [← hA] at Y
  have hvm : s'.vm = s.vm := by rw [hA]; rfl
  have hhp : s'.heap = H := by rw [hA]; exact hT
  have hW0 : s.WarmedH s'.vm := by rw [hvm]; exact State.WarmedH.refl s
  have hat' : ∀ w ∈ vx_atS own ic cls names, w.before args s' = true := fun w hw => vx_ot_at hW0 hvm.symm (hgood w (List.mem_cons_of_mem _ (List.mem_cons_of_mem _ hw))) (hat w hw)
  have hk' : (Cond.classLink own ik cls).before args s' = true := vx_ot_at hW0 hvm.symm (hgood _ List.mem_cons_self) hk
  have hini' : (Cond.initialized cls).before args s' = true := vx_ot_at hW0 hvm.symm (hgood _ (List.mem_cons_of_mem _ List.mem_cons_self)) hini
  have hU' : vx_Zq Bundle.tN "UNASSIGNED_STACK" Bundle.steD A s' s'.heap := by rw [hhp]; exact vx_Zq.moved hW0.alike (hU.kept hS.2.1)
  have hN' : vx_Zq Bundle.tN "SUPPRESSED_SENTINEL" Bundle.listD A s' s'.heap := by rw [hhp]; exact vx_Zq.moved hW0.alike (hN.kept hS.2.1)
  have h : ∀ w ∈ Bundle.ownAtoms own ic cls names, w.before args s' = true := vx_own hat' (vx_isRefq hU'.1) (vx_isRefq hN'.1) hU'.2.word hN'.2.word
  have hown' : s'.vm.findClass own = some m.cls := by rw [hvm]; exact hown
  have hins : (Cond.instantiable cls 6).before args s' = true := h _ (by simp [Bundle.ownAtoms])
  obtain ⟨vm₁, cX, kX, hfX, hkX, -, -, X₁, st1⟩ := Y.newCold hexec (own := own) (C := cls) (index := ik) (n := 6) hown' hk' hins hini'
    (g := F0 m pc ls rest) rfl (by rw [hb]; exact d0) (Nat.le_refl _) (Nat.le_refl _)
  generalize hT1 : (T.setVm vm₁).pushCell { cls := cX, slots := kX.instanceTypes.map defaultValue, vm := .none } = T1 at X₁ st1
  have hcat : (Value.ref T.heap.size).category = 1 := rfl
  have hcellA : T1.heap[T.heap.size]? = some (freshCell cX kX) := by rw [← hT1]; exact State.heap_pushCell_size _ _
  have d3' : decode c.code (pc + 3) = .ok (.dup, 1) := by rw [hb]; exact d3
  have d4' : decode c.code (pc + 4) = .ok (.ldc_w is, 3) := by rw [hb]; exact d4
  have hstr' : vk_R own is text sa s' := vk_R.warm hW0 hstr
  obtain ⟨U, hsteps, hrun, hend, hW, hsame, ce, hce, hO⟩ := X₁.ctorThrowS hexec htr (own := own) (cls := cls) (names := names) (ic := ic) hown' hcls hnames h (fun x hx => nomatch hx) hfX hkX hcellA (by rw [hhp, hT]; exact Nat.le_refl _) (msg := .ref sa) rfl
    (g := { method := m, pc := pc + 7, locals := ls, stack := .ref sa :: .ref T.heap.size :: .ref T.heap.size :: rest, locked := none }) rfl hsize rfl rfl (rest := rest) rfl
    (by rw [hb]; exact d7) (by rw [hb]; exact d10) hout hRframes (by simp only [List.map_cons, List.sum_cons, hcat]; omega) hlocks
  obtain ⟨f1, f2⟩ := vx_frame hsame
  rw [hhp] at f1 f2
  have hWs : s.WarmedH U.vm := State.WarmedH.trans hW0 hW
  have hcl : s.vm.findClass cls = some ce.cls := by
    have h9 := hO.cls
    rw [hvm] at h9
    exact h9
  have hall : s.sameButNew ({ U with vm := s.vm } : State) locs mc ms := by
    subst hA
    obtain ⟨e1, e2⟩ := hsame
    rw [State.setFrames_setFrames] at e1
    have h2 : (T.setVm s.vm).sameButNew ({ U with vm := s.vm } : State) [] (0 + 1) (0 + 6) := ⟨e1, e2⟩
    have h3 := X.same.trans h2
    rw [List.append_nil] at h3
    exact h3.mono hc hs
  refine ⟨U, ?_, .threw T.heap.size, hrun, hend, Or.inr ⟨T.heap.size, rfl, cls, ce, locs, hx U hWs.alike f1 (fun q hq => f2 q hq (fun z hz => nomatch hz)), hce, hO.vm, hcl, hWs, hall, hf⟩⟩
  refine st1 _ ?_
  show Steps p.tables e below (T1.setTop { method := m, pc := pc + 3, locals := ls, stack := .ref T.heap.size :: rest, locked := none }) _
  jvm_step X₁.here [X₁.here.top, hexec, d3', Value.category]
  exact X₁.ldcStringW hexec (own := own) (text := text) (index := is) (a := sa) hown' hstr'.1 hstr'.2
    (g := { method := m, pc := pc + 4, locals := ls, stack := .ref T.heap.size :: .ref T.heap.size :: rest, locked := none }) rfl d4' _ hsteps
end Ends
section Bodies
variable {l : Launch}
theorem vx_ofW {y : MethodName} {ws ws' : List Cond} {rm : Room} {Pc : Array Value → State → Prop} {Qc : Array Value → State → Outcome → State → Prop} {XC : String → State → State → Prop} {mc ms : Nat} {free : Addr → Prop} {cc : ByteArray} {maxL : Nat} {ret : Option FieldType}
    (hy : plainName y.cls = true) (hw : ws = Cond.code y cc maxL ret :: ws')
    (body : ∀ p e s m args below meth c s₁, BodyLoose p l y (headSpec ws rm) cc maxL ret e s m args below meth c s₁ → c.maxLocals = maxL → (∀ x ∈ c.exceptionTable.toList, False) → Pc args s →
      W p l e (headSpec ws rm).room s m args below meth c s.heap [] 0 0 (vx_MQ below Qc XC args s mc ms free) (entryFrame m args maxL)) : vx_Met l y ws rm Pc Qc XC mc ms free := by
  refine MetFree.of_bodyS (code := cc) (maxLocals := maxL) (ret := ret) hy ?_ ?_
  · intro args s m h hn
    obtain ⟨meth, c, h1, h2, h3, h4, h5, h6, -, -⟩ := Cond.code_spec hn (atoms_spec (ws := ws) h _ (by rw [hw]; exact List.mem_cons_self))
    exact ⟨meth, c, h1, h2, h3, h4, h5, h6⟩
  · intro p e s m args below meth c s₁ B hml hP _
    have hh0 : s₁.heap = s.heap := by rw [B.state]; rfl
    have ht : ∀ x ∈ c.exceptionTable.toList, False := by
      obtain ⟨meth9, c9, h1, h2, -, -, -, -, h7, -⟩ := Cond.code_spec B.named (atoms_spec (ws := ws) B.pre _ (by rw [hw]; exact List.mem_cons_self))
      cases Option.some.inj (h1.symm.trans B.method)
      cases Option.some.inj (h2.symm.trans (Stand.of_body B).code)
      intro x hx
      rw [Array.isEmpty_iff.mp h7] at hx
      cases hx
    obtain ⟨t, a1, o, b1, b2, b3⟩ := body p e s m args below meth c s₁ B hml ht hP s₁ hh0 (Stand.of_body B)
    exact ⟨t, o, a1, b1, b2, b3⟩
/-- the table of a body with handlers -/
theorem vx_table {p : Program} {x y : MethodName} {S : Spec} {cc bytes : ByteArray} {maxL maxL' : Nat} {ret ret' : Option FieldType} {e : Env} {s s₁ : State} {m : MethodId} {args : Array Value} {below : List Frame} {meth : Method} {c : Code} {hh : List (Nat × Nat × Nat × Nat)}
    (B : BodyLoose p l y S cc maxL ret e s m args below meth c s₁) (h : (Cond.codeWith y bytes maxL' ret' hh).before args s = true) : c.exceptionTable.toList = tableOf hh := by
  obtain ⟨m9, meth9, c9, hn9, h1, h2, -, -, h6, -⟩ := Cond.codeWith_spec h
  cases Option.some.inj (hn9.symm.trans B.named)
  cases Option.some.inj (h1.symm.trans B.method)
  cases Option.some.inj (h2.symm.trans (Stand.of_body B).code)
  rw [← h6, table_eq]
end Bodies
end VXA
/-! ===== END ===== -/
/-! ===== BEGIN a static call of a method with an exception table ===== -/
section VXS
variable {p : Program} {l : Launch} {e : Env} {R : Room} {s : State} {m : MethodId} {args : Array Value} {below : List Frame} {meth : Method} {c : Code} {T : State} {H : Heap} {locs : List Loc} {cells slots : Nat}
abbrev vx_CSW (R : Room) (s : State) (args : Array Value) (own : String) (index : Nat) (y : MethodName) (bytes : ByteArray) (maxL : Nat) (ret : Option FieldType) (hh : List (Nat × Nat × Nat × Nat)) (ws : List Cond) (rm : Room) (mc ms n : Nat) : Prop :=
  (rm.cells = mc ∧ rm.slots = ms ∧ rm.frames + 1 ≤ R.frames ∧ 8 + (maxL + 11) + rm.locals ≤ R.locals ∧ (∀ w ∈ ws, ∀ (a' : Array Value) (U : State), s.WarmedH U.vm → w.before a' U = true) ∧ Cond.codeWith y bytes maxL ret hh ∈ ws) ∧
  (Cond.codeWith y bytes maxL ret hh).before args s = true ∧ (Cond.initialized y.cls).before args s = true ∧ (y.cls ≠ "java/lang/invoke/MethodHandle" ∧ y.cls ≠ "java/lang/invoke/VarHandle") ∧
  (∀ sig, parseMethodDescriptor y.desc = some sig → n = sig.parameters.length) ∧ (Cond.methodLink own index y).before args s = true ∧ (Cond.static y).before args s = true
theorem vx_cwSW {own : String} {index maxL mc ms : Nat} {y : MethodName} {bytes : ByteArray} {ret : Option FieldType} {hh : List (Nat × Nat × Nat × Nat)} {Ts ws ws' : List Cond} {rm : Room} (n : Nat) (ht : ∀ w ∈ Ts, w.before args s = true) (hT : GoodIn Ts (va_wsS own index y ws)) (hw : ws = Cond.codeWith y bytes maxL ret hh :: ws') (hrc : rm.cells = mc) (hrs : rm.slots = ms)
    (hd : y.cls ≠ "java/lang/invoke/MethodHandle" ∧ y.cls ≠ "java/lang/invoke/VarHandle" ∧ (parseMethodDescriptor y.desc).map (fun d => d.parameters.length) = some n) (hR : rm.frames + 1 ≤ R.frames ∧ 8 + (maxL + 11) + rm.locals ≤ R.locals) :
    vx_CSW R s args own index y bytes maxL ret hh ws rm mc ms n := by
  have ok : ∀ w ∈ va_wsS own index y ws, w.before args s = true := fun w h => ht w (hT w h).1
  have hG : GoodIn Ts ws := fun w h => hT w (by unfold va_wsS; exact List.mem_append_right _ h)
  have hc : Cond.codeWith y bytes maxL ret hh ∈ ws := by rw [hw]; exact List.mem_cons_self
  refine ⟨⟨hrc, hrs, hR.1, hR.2, pay_in ht hG, hc⟩, ht _ (hG _ hc).1, ok _ (by simp [va_wsS]), ⟨hd.1, hd.2.1⟩, fun sig h => ?_, ok _ (by simp [va_wsS]), ok _ (by simp [va_wsS])⟩
  have h2 := hd.2.2
  rw [h] at h2
  exact (Option.some.inj h2).symm
theorem vx_callSW (X : Stand p l e R s m args below meth c T locs cells slots) (hexec : p.tables.exec = Jvm.exec) {own : String} {index : Nat} {y : MethodName} {bytes : ByteArray} {maxL : Nat} {ret : Option FieldType} {hh : List (Nat × Nat × Nat × Nat)}
    (hown : s.vm.findClass own = some m.cls) (hlink : (Cond.methodLink own index y).before args s = true) (hstat : (Cond.static y).before args s = true) (hinit : (Cond.initialized y.cls).before args s = true)
    (hcode : (Cond.codeWith y bytes maxL ret hh).before args s = true) (hy : y.cls ≠ "java/lang/invoke/MethodHandle" ∧ y.cls ≠ "java/lang/invoke/VarHandle")
    {W9 : Nat} {Pre : Pt → Array Value → Prop} {Post : Pt → Array Value → Option Value → Pt → Prop} (hK : Back l R p e below s args y 3 W9 Pre Post)
    {g : JFrame} (hg : g.method = m) (hsize : g.locals.size = c.maxLocals) {argsL rest : List Value} (hlen : ∀ sig, parseMethodDescriptor y.desc = some sig → argsL.length = sig.parameters.length)
    (hstack : g.stack = argsL.reverse ++ rest) (hW : 2 * g.monitorRoom + (rest.map fun v => v.category).sum ≤ W9) (hdg : decode c.code g.pc = .ok (.invokestatic index, 3))
    (hpre : ∀ vm₁, s.WarmedH vm₁ → Pre ⟨T.setVm vm₁, locs, cells, slots⟩ argsL.toArray) :
    ∃ (v : Option Value) (vm₁ : Vm) (B : Pt), s.WarmedH vm₁ ∧ Stand p l e R s m args below meth c B.U B.locs B.cells B.slots ∧ Post ⟨T.setVm vm₁, locs, cells, slots⟩ argsL.toArray v B ∧
      ∀ target, Steps p.tables e below (B.U.setTop { g with pc := g.pc + 3, stack := v.toList ++ rest }) target → Steps p.tables e below (T.setTop g) target := by
  obtain ⟨mk, methM, cM, hnamed, hmethM, -, -, -, -, -, -, hsigM⟩ := Cond.codeWith_spec hcode
  have hstatic : methM.isStatic = true := Cond.static_spec hnamed hmethM hstat
  obtain ⟨kP, hkP, -⟩ := className_of_methodNamed hnamed
  have hinitP : kP.init = .initialized := Cond.initialized_spec (findClass_of_methodNamed hnamed) hkP hinit
  obtain ⟨vm₁, X₁, hstep₁⟩ := X.invokestatic hexec hown hlink hnamed hmethM hstatic hkP hinitP hy (g := g) hg (argsL := argsL) (rest := rest) (hlen _ hsigM) hstack hdg
  obtain ⟨v, B, X', hpost, hsteps⟩ := hK m meth c ⟨T.setVm vm₁, locs, cells, slots⟩ { g with stack := rest } (.invokestatic index) mk argsL.toArray X₁ hg hsize hdg hW (X₁.named hnamed) (hpre vm₁ X₁.warmed)
  exact ⟨v, vm₁, B, X₁.warmed, X', hpost, fun target h => hstep₁ _ fun acts => by rw [doInvoke_state]; exact hsteps.trans h⟩
theorem vx_runSW {y : MethodName} {bytes cc : ByteArray} {maxL nL mc ms n index : Nat} {ret : Option FieldType} {hh : List (Nat × Nat × Nat × Nat)} {ws : List Cond} {rm : Room} {Pc : Array Value → State → Prop} {Qc : Array Value → State → Outcome → State → Prop} {free : Addr → Prop} {Ts : List Cond} {own : String} {As rest : List Value} {g : JFrame}
    (S : CallFix p m c cc nL s args Ts own) (hM : Met l y ws rm Pc Qc mc ms free) (cw : vx_CSW R s args own index y bytes maxL ret hh ws rm mc ms n) (hp : PreS s H Pc As)
    (hg : g.method = m) (hn : As.length = n) (hsize : g.locals.size = nL) (hstack : g.stack = As.reverse ++ rest) (hW : 2 * g.monitorRoom + (rest.map fun v => v.category).sum ≤ 8) (hdg : decode cc g.pc = .ok (.invokestatic index, 3)) (hf : cells + mc ≤ R.cells ∧ slots + ms ≤ R.slots) :
    va_Run p l e R s m args below meth c H locs cells slots mc ms g rest (Qc As.toArray) (free) := by
  obtain ⟨⟨hrc, hrs, hfr, hlo, hws, hcw⟩, hcode, hini, hy, hlen, hl, hstt⟩ := cw
  have hK : Back l R p e below s args y 3 8 (PreOf R mc ms Pc) (PostOf Qc mc ms free) := va_backW (hh := hh) (bytes := bytes) (maxL := maxL) (ret := ret) hM hp.1 hrc hrs hfr hlo hws hcw (fun a' U hW => word_at hW (Or.inl (by first | rfl | simp [Cond.onTables, Cond.keeps, Cond.steady])) hini)
  obtain ⟨hx, hb, hml, ho, -⟩ := S
  intro T hT X
  obtain ⟨v, vm₁, ⟨U', l2, c2, s2⟩, hW₁, X', ⟨g', mk, t, L, e1, e2, hq, h1, hL, h2, h3⟩, st⟩ := vx_callSW X hx (hh := hh) (bytes := bytes) (maxL := maxL) (ret := ret) ho hl hstt hini hcode hy hK hg (hsize.trans hml.symm) (argsL := As) (rest := rest) (fun sig h => hn.trans (hlen sig h)) hstack hW (by rw [hb]; exact hdg)
    (fun vm₁ hW₁ => ⟨hf.1, hf.2, hp.2 (T.setVm vm₁) hT hW₁⟩)
  dsimp only [Pt.U, Pt.locs, Pt.cells, Pt.slots] at X' e1 e2 h1 h2 h3 st
  subst h1; subst h2; subst h3
  exact ⟨v, (T.setVm vm₁).calling g' mk As.toArray, t, U', L, hT, X', hL, e1, e2, hq, st⟩
/-- not caught here, past rows that name other classes: it goes on to the caller -/
theorem vx_outP {p : Program} {l : Launch} {e : Env} {R : Room} {s : State} {m : MethodId} {args : Array Value} {below : List Frame} {meth : Method} {c : Code} {H : Heap} {locs : List Loc} {cells slots : Nat} {free : Addr → Prop} {ls : Array Slot} {rest : List Value} {Qc : Array Value → State → Outcome → State → Prop} {XC : String → State → State → Prop}
    {pc : Nat} {own E : String} {ce : Cell} {q : Addr} {mc ms : Nat} (hown : s.vm.findClass own = some m.cls) (hlocks : meth.locks = false)
    (hpass : ∀ z ∈ c.exceptionTable.toList, covers z pc = false ∨ (z.catchType ≠ 0 ∧ ∃ nm : String, (Cond.classLink own z.catchType nm).before args s = true ∧ va_Nc E nm s)) (hcell : H[q]? = some ce) (hv : ce.vm = .none) (hcl : s.vm.findClass E = some ce.cls)
    (hx : ∀ t : State, t.heap = H → s.vm.Alike t.vm → XC E s t) (hf : ∀ z ∈ locs, free z.base) (hc : cells ≤ mc) (hs : slots ≤ ms) :
    vx_W p l e R s m args below meth c H locs cells slots (vx_MQ below Qc XC args s mc ms free) (F0 m pc ls rest) q := by
  intro T hT X
  have hpl : e.platform.magicAccessors = ({} : Platform).magicAccessors := by rw [X.admits.platform]
  obtain ⟨vm', hW', X', st⟩ := X.outThrough hlocks q (g := F0 m pc ls rest) rfl rfl rfl (cell := ce) (by rw [hT]; exact hcell) (by rw [hv]; rfl)
    (by obtain ⟨k9, h9, -⟩ := Vm.findClass_spec hcl; exact ⟨k9, h9⟩) (fun z hz => by
      rcases hpass z hz with h | ⟨hz0, nm, hl1, hn1⟩
      · exact Or.inl h
      · obtain ⟨c6, hc6, hcl6⟩ := Cond.classLink_spec hown hl1 e.platform hpl
        obtain ⟨a8, b8, h1, h2, h3⟩ := hn1
        cases Option.some.inj (h1.symm.trans hcl)
        cases Option.some.inj (h2.symm.trans hc6)
        exact Or.inr ⟨hz0, _, hcl6, h3⟩)
  obtain ⟨g₀, hfr⟩ := X'.frames_eq
  have hcell9 : ((T.setVm vm').setFrames (.throwing q :: below)).heap[q]? = some ce := by
    show T.heap[q]? = some ce
    rw [hT]; exact hcell
  have hend : Ended ((T.setVm vm').setFrames (.throwing q :: below)) below (.threw q) := State.frames_setFrames _ (State.cur_lt_of_frames hfr)
  refine ⟨(T.setVm vm').setFrames (.throwing q :: below), ?_, .threw q, X'.here.running, hend, Or.inr ⟨q, rfl, E, ce, locs, hx _ hT (X'.ends _).1.alike, hcell9, hv, hcl, (X'.ends _).1, (X'.ends _).2.mono hc hs, hf⟩⟩
  rw [X.pushThrowing_eq]
  exact st
/-- a thing of a world lies in the heap -/
theorem vx_lt {D : va_G} {cl : List vw_C} {ws : va_W} {H1 : Heap} (h : va_P D cl ws H1) {k : Nat} {q : Nat × va_E} (hk : ws[k]? = some q) : q.1 < H1.size := (h k q hk).lt
end VXS
/-! ===== END ===== -/
/-! ===== BEGIN methods with a table of their own: called by a name, returning or throwing ===== -/
section VXH
/-! vx_backW, vx_callVX, vx_callSX, vx_callVW, vx_runVW, vx_runVX, vx_runSX, vx_ofWH follow the same proofs as their sisters above (Free/Laws.lean, Shelf42/LK1.lean); vx_outP calls Shelf42/NT130.lean (outThrough). -/
section
variable {l : Launch} {R : Room} {p : Program} {e : Env} {below : List Frame} {s : State} {sargs : Array Value} {y : MethodName} {len W9 : Nat}
theorem vx_backW {ws : List Cond} {rm : Room} {Pc : Array Value → State → Prop} {Qc : Array Value → State → Outcome → State → Prop} {XC : String → State → State → Prop} {mc ms : Nat} {free : Addr → Prop} {bytes : ByteArray} {maxL : Nat} {ret : Option FieldType} {hh : List (Nat × Nat × Nat × Nat)}
    (hM : vx_Met l y ws rm Pc Qc XC mc ms free) (hblind : FrameBlind Pc) (hrc : rm.cells = mc) (hrs : rm.slots = ms)
    (hframes : rm.frames + 1 ≤ R.frames) (hlocals : W9 + (maxL + 11) + rm.locals ≤ R.locals)
    (hws : ∀ w ∈ ws, ∀ a' U, s.WarmedH U.vm → w.before a' U = true) (hcode : Cond.codeWith y bytes maxL ret hh ∈ ws) (hinit : ∀ a' U, s.WarmedH U.vm → (Cond.initialized y.cls).before a' U = true) :
    vx_Back l R p e below s sargs y len W9 (PreOf R mc ms Pc) (PostOf Qc mc ms free) (vx_Post XC mc ms free) := by
  intro m meth c A g ig mk a X hg hsize hdg hW hn hp
  have h1 : (headSpec ws rm).pre.before a A.U = true := atoms_intro fun w hw => hws w hw _ _ X.warmed
  have h2 : (Cond.codeWith y bytes maxL ret hh).before a A.U = true := hws _ hcode _ _ X.warmed
  have h3 : (Cond.initialized y.cls).before a A.U = true := hinit _ _ X.warmed
  have h4 : A.cells + (headSpec ws rm).room.cells ≤ R.cells := by rw [show (headSpec ws rm).room.cells = mc from hrc]; exact hp.1
  have h5 : A.slots + (headSpec ws rm).room.slots ≤ R.slots := by rw [show (headSpec ws rm).room.slots = ms from hrs]; exact hp.2.1
  have hPc : Pc a (A.U.calling g mk a) := hblind _ _ _ _ hp.2.2
  obtain ⟨U, Ls, c0, s0⟩ := A
  dsimp only [Pt.U, Pt.locs, Pt.cells, Pt.slots] at h1 h2 h3 h4 h5 X hn hPc ⊢
  obtain ⟨m9, methY, cY, hn9, hmY, hcY, -, hlY, -⟩ := Cond.codeWith_spec h2
  cases Option.some.inj (hn9.symm.trans hn)
  obtain ⟨kY, hkY, -⟩ := className_of_methodNamed hn
  have hinitY : kY.init = .initialized := Cond.initialized_spec (findClass_of_methodNamed hn) hkY h3
  have h : At U g.method c below := by rw [hg]; exact X.here
  have hlocals9 : W9 + (maxL + 11) + (headSpec ws rm).room.locals ≤ R.locals := hlocals
  have happ : (headSpec ws rm).appliesLoose y e.platform (U.calling g mk a) = true :=
    Spec.appliesLoose_calling (g := g) h hdg hn hkY hinitY
      (X.room_calling (g := g) (R' := (headSpec ws rm).room) hsize hmY hcY hframes (by rw [hlY]; omega) h4 h5) h1
  obtain ⟨mid, hmid⟩ := h.above
  have hfr : (U.setTop g).frames = (.java g :: mid) ++ below := by rw [State.frames_setTop' g h.top, hmid]; rfl
  obtain ⟨o, s₂, hsteps, -, hend, hq⟩ := Steps.callFree hM p X.admits X.cas X.clock (acts := []) hfr happ hPc trivial
  have hq' : vx_Q Qc XC mc ms free a (U.calling g mk a) o s₂ := hq
  rw [State.frames_setTop' g h.top] at hend
  obtain ⟨g₀, hg0⟩ := Option.isSome_iff_exists.mp h.top
  obtain ⟨r, hr⟩ := State.topJava?_eq_some.mp hg0
  have hr' : (({ U with heap := s₂.heap, slotsUsed := s₂.slotsUsed } : State).setVm s₂.vm).frames = .java g₀ :: r := hr
  rcases hq' with ⟨hqc, L, hfe, hL⟩ | ⟨q, rfl, E, ce, L, hx, hce, hcv, hcl, hW₂, hsm, hL⟩
  · obtain ⟨⟨v, rfl⟩, hW₂, e2, q2, q3, q4, q5, q6⟩ := id hfe
    have e3 : s₂ = ({ (U.calling g mk a).setFrames s₂.frames with heap := s₂.heap, slotsUsed := s₂.slotsUsed } : State).setVm s₂.vm := by
      have : s₂ = ({ s₂ with vm := (U.calling g mk a).vm } : State).setVm s₂.vm := rfl
      rw [e2] at this
      exact this
    obtain ⟨c₂, i₂, len₂, hc₂, hd₂, hf₂⟩ := hend
    have hW' : U.WarmedH s₂.vm := hW₂
    have hcc : c₂ = c := by
      have h1 : s₂.code? g.method = U.code? g.method := by
        rw [State.code?_eq, State.code?_eq, hW'.alike.method?]
      exact Option.some.inj (hc₂.symm.trans (h1.trans h.code))
    subst hcc
    have hlen : len₂ = len := by rw [hdg] at hd₂; cases hd₂; rfl
    subst hlen
    have hs₂ : s₂ = (({ U with heap := s₂.heap, slotsUsed := s₂.slotsUsed } : State).setVm s₂.vm).setTop { g with pc := g.pc + len₂, stack := v.toList ++ g.stack } := by
      refine e3.trans ?_
      rw [hf₂, State.calling_eq h.top, State.setFrames_setFrames, State.setTop_of_frames _ hr', hr]
      rfl
    have hsame : U.sameButNew ({ U with heap := s₂.heap, slotsUsed := s₂.slotsUsed } : State) L mc ms := by
      refine ⟨?_, q2, q3, q4, q5, q6⟩
      obtain ⟨t, ht, -⟩ := State.frames_cons hr
      show ({ U with heap := s₂.heap, slotsUsed := s₂.slotsUsed } : State) = { U.setFrames U.frames with heap := s₂.heap, slotsUsed := s₂.slotsUsed }
      rw [State.setFrames_self ht]
    subst hg
    refine Or.inl ⟨v, ⟨(({ U with heap := s₂.heap, slotsUsed := s₂.slotsUsed } : State).setVm s₂.vm), Ls ++ L, c0 + mc, s0 + ms⟩,
      ⟨X.admits, X.cas, X.clock, X.frames, X.room, X.hears, X.method, X.code, (X.here.setHeapUsed s₂.heap s₂.slotsUsed).setVm hW'.alike, X.tail, State.WarmedH.trans X.warmed hW', X.limits, X.bytes, X.same.trans (hsame.setVm s.vm)⟩,
      ⟨g, mk, s₂, L, rfl, rfl, hqc, rfl, hL, rfl, rfl⟩, ?_⟩
    show Steps p.tables e below _ ((({ U with heap := s₂.heap, slotsUsed := s₂.slotsUsed } : State).setVm s₂.vm).setTop { g with pc := g.pc + len₂, stack := v.toList ++ g.stack })
    rw [← hs₂]
    exact hsteps
  · obtain ⟨e2, q2, q3, q4, q5, q6⟩ := id hsm
    have e3 : s₂ = ({ (U.calling g mk a).setFrames s₂.frames with heap := s₂.heap, slotsUsed := s₂.slotsUsed } : State).setVm s₂.vm := by
      have : s₂ = ({ s₂ with vm := (U.calling g mk a).vm } : State).setVm s₂.vm := rfl
      rw [e2] at this
      exact this
    have hf₂ : s₂.frames = .throwing q :: .java g :: U.frames.tail := hend
    have hW' : U.WarmedH s₂.vm := hW₂
    have hs₂ : s₂ = ((({ U with heap := s₂.heap, slotsUsed := s₂.slotsUsed } : State).setVm s₂.vm).setTop g).pushFrame (.throwing q) := by
      refine e3.trans ?_
      rw [hf₂, State.calling_eq h.top, State.setFrames_setFrames, State.pushFrame, State.frames_setTop _ hr', State.setTop_of_frames _ hr', State.setFrames_setFrames, hr]
      rfl
    have hsame : U.sameButNew ({ U with heap := s₂.heap, slotsUsed := s₂.slotsUsed } : State) L mc ms := by
      refine ⟨?_, q2, q3, q4, q5, q6⟩
      obtain ⟨t, ht, -⟩ := State.frames_cons hr
      show ({ U with heap := s₂.heap, slotsUsed := s₂.slotsUsed } : State) = { U.setFrames U.frames with heap := s₂.heap, slotsUsed := s₂.slotsUsed }
      rw [State.setFrames_self ht]
    subst hg
    refine Or.inr ⟨q, ⟨(({ U with heap := s₂.heap, slotsUsed := s₂.slotsUsed } : State).setVm s₂.vm), Ls ++ L, c0 + mc, s0 + ms⟩,
      ⟨X.admits, X.cas, X.clock, X.frames, X.room, X.hears, X.method, X.code, (X.here.setHeapUsed s₂.heap s₂.slotsUsed).setVm hW'.alike, X.tail, State.WarmedH.trans X.warmed hW', X.limits, X.bytes, X.same.trans (hsame.setVm s.vm)⟩,
      ⟨g, mk, s₂, L, E, ce, rfl, rfl, hx, hce, hcv, hcl, rfl, hL, rfl, rfl⟩, ?_⟩
    show Steps p.tables e below _ (((({ U with heap := s₂.heap, slotsUsed := s₂.slotsUsed } : State).setVm s₂.vm).setTop g).pushFrame (.throwing q))
    rw [← hs₂]
    exact hsteps
end
variable {p : Program} {l : Launch} {e : Env} {R : Room} {s : State} {m : MethodId} {args : Array Value} {below : List Frame} {meth : Method} {c : Code} {T : State} {H : Heap} {locs : List Loc} {cells slots : Nat}
theorem vx_callVX (X : Stand p l e R s m args below meth c T locs cells slots) (hexec : p.tables.exec = Jvm.exec) {own C : String} {index : Nat} {y : MethodName} {bytes : ByteArray} {maxL : Nat} {ret : Option FieldType} {hh : List (Nat × Nat × Nat × Nat)}
    (hown : s.vm.findClass own = some m.cls) (hlink : (Cond.methodLink own index y).before args s = true) (hinst : (Cond.instanceMethod y).before args s = true) (hsel : (Cond.selects C y y).before args s = true)
    (hcode : (Cond.codeWith y bytes maxL ret hh).before args s = true) (hy : y.cls ≠ "java/lang/invoke/MethodHandle" ∧ y.cls ≠ "java/lang/invoke/VarHandle")
    {W9 : Nat} {Pre : Pt → Array Value → Prop} {Post : Pt → Array Value → Option Value → Pt → Prop} {PostX : Pt → Array Value → Addr → Pt → Prop} (hK : vx_Back l R p e below s args y 3 W9 Pre Post PostX)
    {b : Addr} {cellB : Cell} (hcell : T.heap[b]? = some cellB) (hobj : cellB.vm.isStatics = false) (hcls : s.vm.findClass C = some cellB.cls)
    {g : JFrame} (hg : g.method = m) (hsize : g.locals.size = c.maxLocals) {argsL rest : List Value} (hlen : ∀ sig, parseMethodDescriptor y.desc = some sig → argsL.length = sig.parameters.length)
    (hstack : g.stack = argsL.reverse ++ .ref b :: rest) (hW : 2 * g.monitorRoom + (rest.map fun v => v.category).sum ≤ W9) (hdg : decode c.code g.pc = .ok (.invokevirtual index, 3))
    (hpre : ∀ vm₁, s.WarmedH vm₁ → Pre ⟨T.setVm vm₁, locs, cells, slots⟩ (Value.ref b :: argsL).toArray) :
    (∃ (v : Option Value) (vm₁ : Vm) (B : Pt), s.WarmedH vm₁ ∧ Stand p l e R s m args below meth c B.U B.locs B.cells B.slots ∧ Post ⟨T.setVm vm₁, locs, cells, slots⟩ (Value.ref b :: argsL).toArray v B ∧
      ∀ target, Steps p.tables e below (B.U.setTop { g with pc := g.pc + 3, stack := v.toList ++ rest }) target → Steps p.tables e below (T.setTop g) target) ∨
    (∃ (q : Addr) (vm₁ : Vm) (B : Pt), s.WarmedH vm₁ ∧ Stand p l e R s m args below meth c B.U B.locs B.cells B.slots ∧ PostX ⟨T.setVm vm₁, locs, cells, slots⟩ (Value.ref b :: argsL).toArray q B ∧
      Steps p.tables e below (T.setTop g) ((B.U.setTop { g with stack := rest }).pushFrame (.throwing q))) := by
  obtain ⟨mk, methM, hnamed, hmethM, hstM, habM⟩ := Cond.instanceMethod_spec hinst
  obtain ⟨m8, methM', cM, hn8, hmethM', -, -, -, -, -, -, hsigM⟩ := Cond.codeWith_spec hcode
  cases Option.some.inj (hn8.symm.trans hnamed)
  cases hmethM.symm.trans hmethM'
  obtain ⟨c2, r2, m2, q1, q2, q3, q4, kP, hkP, hkPi⟩ := Cond.selects_spec hsel
  cases hcls.symm.trans q1
  cases (State.methodFound?_of_named hnamed hy).symm.trans q2
  cases hnamed.symm.trans q3
  have hselP : selectMethod e.platform s.vm cellB.cls mk = .method mk := by rw [Launch.admits_selectMethod X.admits]; exact q4
  obtain ⟨vm₁, X₁, hstep₁⟩ := X.invokevirtual hexec hown hlink hnamed hmethM hstM hkP hkPi hy (a := b) (cell := cellB) hcell
    (fun z h => by rw [h] at hobj; cases hobj) hselP hmethM habM hkP hkPi (g := g) hg (argsL := argsL) (rest := rest) (hlen _ hsigM) hstack hdg
  rcases hK m meth c ⟨T.setVm vm₁, locs, cells, slots⟩ { g with stack := rest } (.invokevirtual index) mk (Value.ref b :: argsL).toArray X₁ hg hsize hdg hW (X₁.named hnamed) (hpre vm₁ X₁.warmed) with ⟨v, B, X', hpost, hsteps⟩ | ⟨q, B, X', hpost, hsteps⟩
  · exact Or.inl ⟨v, vm₁, B, X₁.warmed, X', hpost, fun target h => hstep₁ _ fun acts => by rw [doInvoke_state]; exact hsteps.trans h⟩
  · exact Or.inr ⟨q, vm₁, B, X₁.warmed, X', hpost, hstep₁ _ fun acts => by rw [doInvoke_state]; exact hsteps⟩
theorem vx_callSX (X : Stand p l e R s m args below meth c T locs cells slots) (hexec : p.tables.exec = Jvm.exec) {own : String} {index : Nat} {y : MethodName} {bytes : ByteArray} {maxL : Nat} {ret : Option FieldType} {hh : List (Nat × Nat × Nat × Nat)}
    (hown : s.vm.findClass own = some m.cls) (hlink : (Cond.methodLink own index y).before args s = true) (hstat : (Cond.static y).before args s = true) (hinit : (Cond.initialized y.cls).before args s = true)
    (hcode : (Cond.codeWith y bytes maxL ret hh).before args s = true) (hy : y.cls ≠ "java/lang/invoke/MethodHandle" ∧ y.cls ≠ "java/lang/invoke/VarHandle")
    {W9 : Nat} {Pre : Pt → Array Value → Prop} {Post : Pt → Array Value → Option Value → Pt → Prop} {PostX : Pt → Array Value → Addr → Pt → Prop} (hK : vx_Back l R p e below s args y 3 W9 Pre Post PostX)
    {g : JFrame} (hg : g.method = m) (hsize : g.locals.size = c.maxLocals) {argsL rest : List Value} (hlen : ∀ sig, parseMethodDescriptor y.desc = some sig → argsL.length = sig.parameters.length)
    (hstack : g.stack = argsL.reverse ++ rest) (hW : 2 * g.monitorRoom + (rest.map fun v => v.category).sum ≤ W9) (hdg : decode c.code g.pc = .ok (.invokestatic index, 3))
    (hpre : ∀ vm₁, s.WarmedH vm₁ → Pre ⟨T.setVm vm₁, locs, cells, slots⟩ argsL.toArray) :
    (∃ (v : Option Value) (vm₁ : Vm) (B : Pt), s.WarmedH vm₁ ∧ Stand p l e R s m args below meth c B.U B.locs B.cells B.slots ∧ Post ⟨T.setVm vm₁, locs, cells, slots⟩ argsL.toArray v B ∧
      ∀ target, Steps p.tables e below (B.U.setTop { g with pc := g.pc + 3, stack := v.toList ++ rest }) target → Steps p.tables e below (T.setTop g) target) ∨
    (∃ (q : Addr) (vm₁ : Vm) (B : Pt), s.WarmedH vm₁ ∧ Stand p l e R s m args below meth c B.U B.locs B.cells B.slots ∧ PostX ⟨T.setVm vm₁, locs, cells, slots⟩ argsL.toArray q B ∧
      Steps p.tables e below (T.setTop g) ((B.U.setTop { g with stack := rest }).pushFrame (.throwing q))) := by
  obtain ⟨mk, methM, cM, hnamed, hmethM, -, -, -, -, -, -, hsigM⟩ := Cond.codeWith_spec hcode
  have hstatic : methM.isStatic = true := Cond.static_spec hnamed hmethM hstat
  obtain ⟨kP, hkP, -⟩ := className_of_methodNamed hnamed
  have hinitP : kP.init = .initialized := Cond.initialized_spec (findClass_of_methodNamed hnamed) hkP hinit
  obtain ⟨vm₁, X₁, hstep₁⟩ := X.invokestatic hexec hown hlink hnamed hmethM hstatic hkP hinitP hy (g := g) hg (argsL := argsL) (rest := rest) (hlen _ hsigM) hstack hdg
  rcases hK m meth c ⟨T.setVm vm₁, locs, cells, slots⟩ { g with stack := rest } (.invokestatic index) mk argsL.toArray X₁ hg hsize hdg hW (X₁.named hnamed) (hpre vm₁ X₁.warmed) with ⟨v, B, X', hpost, hsteps⟩ | ⟨q, B, X', hpost, hsteps⟩
  · exact Or.inl ⟨v, vm₁, B, X₁.warmed, X', hpost, fun target h => hstep₁ _ fun acts => by rw [doInvoke_state]; exact hsteps.trans h⟩
  · exact Or.inr ⟨q, vm₁, B, X₁.warmed, X', hpost, hstep₁ _ fun acts => by rw [doInvoke_state]; exact hsteps⟩
theorem vx_callVW (X : Stand p l e R s m args below meth c T locs cells slots) (hexec : p.tables.exec = Jvm.exec) {own C : String} {index : Nat} {y : MethodName} {bytes : ByteArray} {maxL : Nat} {ret : Option FieldType} {hh : List (Nat × Nat × Nat × Nat)}
    (hown : s.vm.findClass own = some m.cls) (hlink : (Cond.methodLink own index y).before args s = true) (hinst : (Cond.instanceMethod y).before args s = true) (hsel : (Cond.selects C y y).before args s = true)
    (hcode : (Cond.codeWith y bytes maxL ret hh).before args s = true) (hy : y.cls ≠ "java/lang/invoke/MethodHandle" ∧ y.cls ≠ "java/lang/invoke/VarHandle")
    {W9 : Nat} {Pre : Pt → Array Value → Prop} {Post : Pt → Array Value → Option Value → Pt → Prop} (hK : Back l R p e below s args y 3 W9 Pre Post)
    {b : Addr} {cellB : Cell} (hcell : T.heap[b]? = some cellB) (hobj : cellB.vm.isStatics = false) (hcls : s.vm.findClass C = some cellB.cls)
    {g : JFrame} (hg : g.method = m) (hsize : g.locals.size = c.maxLocals) {argsL rest : List Value} (hlen : ∀ sig, parseMethodDescriptor y.desc = some sig → argsL.length = sig.parameters.length)
    (hstack : g.stack = argsL.reverse ++ .ref b :: rest) (hW : 2 * g.monitorRoom + (rest.map fun v => v.category).sum ≤ W9) (hdg : decode c.code g.pc = .ok (.invokevirtual index, 3))
    (hpre : ∀ vm₁, s.WarmedH vm₁ → Pre ⟨T.setVm vm₁, locs, cells, slots⟩ (Value.ref b :: argsL).toArray) :
    ∃ (v : Option Value) (vm₁ : Vm) (B : Pt), s.WarmedH vm₁ ∧ Stand p l e R s m args below meth c B.U B.locs B.cells B.slots ∧ Post ⟨T.setVm vm₁, locs, cells, slots⟩ (Value.ref b :: argsL).toArray v B ∧
      ∀ target, Steps p.tables e below (B.U.setTop { g with pc := g.pc + 3, stack := v.toList ++ rest }) target → Steps p.tables e below (T.setTop g) target := by
  obtain ⟨mk, methM, hnamed, hmethM, hstM, habM⟩ := Cond.instanceMethod_spec hinst
  obtain ⟨m8, methM', cM, hn8, hmethM', -, -, -, -, -, -, hsigM⟩ := Cond.codeWith_spec hcode
  cases Option.some.inj (hn8.symm.trans hnamed)
  cases hmethM.symm.trans hmethM'
  obtain ⟨c2, r2, m2, q1, q2, q3, q4, kP, hkP, hkPi⟩ := Cond.selects_spec hsel
  cases hcls.symm.trans q1
  cases (State.methodFound?_of_named hnamed hy).symm.trans q2
  cases hnamed.symm.trans q3
  have hselP : selectMethod e.platform s.vm cellB.cls mk = .method mk := by rw [Launch.admits_selectMethod X.admits]; exact q4
  obtain ⟨vm₁, X₁, hstep₁⟩ := X.invokevirtual hexec hown hlink hnamed hmethM hstM hkP hkPi hy (a := b) (cell := cellB) hcell
    (fun z h => by rw [h] at hobj; cases hobj) hselP hmethM habM hkP hkPi (g := g) hg (argsL := argsL) (rest := rest) (hlen _ hsigM) hstack hdg
  obtain ⟨v, B, X', hpost, hsteps⟩ := hK m meth c ⟨T.setVm vm₁, locs, cells, slots⟩ { g with stack := rest } (.invokevirtual index) mk (Value.ref b :: argsL).toArray X₁ hg hsize hdg hW (X₁.named hnamed) (hpre vm₁ X₁.warmed)
  exact ⟨v, vm₁, B, X₁.warmed, X', hpost, fun target h => hstep₁ _ fun acts => by rw [doInvoke_state]; exact hsteps.trans h⟩
abbrev vx_CVW (R : Room) (s : State) (args : Array Value) (own C : String) (index : Nat) (y : MethodName) (bytes : ByteArray) (maxL : Nat) (ret : Option FieldType) (hh : List (Nat × Nat × Nat × Nat)) (ws : List Cond) (rm : Room) (mc ms n : Nat) : Prop :=
  (rm.cells = mc ∧ rm.slots = ms ∧ rm.frames + 1 ≤ R.frames ∧ 8 + (maxL + 11) + rm.locals ≤ R.locals ∧ (∀ w ∈ ws, ∀ (a' : Array Value) (U : State), s.WarmedH U.vm → w.before a' U = true) ∧ Cond.codeWith y bytes maxL ret hh ∈ ws) ∧
  (Cond.codeWith y bytes maxL ret hh).before args s = true ∧ (Cond.initialized y.cls).before args s = true ∧ (y.cls ≠ "java/lang/invoke/MethodHandle" ∧ y.cls ≠ "java/lang/invoke/VarHandle") ∧
  (∀ sig, parseMethodDescriptor y.desc = some sig → n = sig.parameters.length) ∧ (Cond.methodLink own index y).before args s = true ∧ (Cond.instanceMethod y).before args s = true ∧ (Cond.selects C y y).before args s = true
theorem vx_cwVW {own C : String} {index maxL mc ms : Nat} {y : MethodName} {bytes : ByteArray} {ret : Option FieldType} {hh : List (Nat × Nat × Nat × Nat)} {Ts ws ws' : List Cond} {rm : Room} (n : Nat) (ht : ∀ w ∈ Ts, w.before args s = true) (hT : GoodIn Ts (wsV own index C y ws)) (hw : ws = Cond.codeWith y bytes maxL ret hh :: ws') (hrc : rm.cells = mc) (hrs : rm.slots = ms)
    (hd : y.cls = C ∧ y.cls ≠ "java/lang/invoke/MethodHandle" ∧ y.cls ≠ "java/lang/invoke/VarHandle" ∧ (parseMethodDescriptor y.desc).map (fun d => d.parameters.length) = some n) (hR : rm.frames + 1 ≤ R.frames ∧ 8 + (maxL + 11) + rm.locals ≤ R.locals) :
    vx_CVW R s args own C index y bytes maxL ret hh ws rm mc ms n := by
  obtain ⟨hC, hd⟩ := hd
  subst hC
  have ok : ∀ w ∈ wsV own index y.cls y ws, w.before args s = true := fun w h => ht w (hT w h).1
  have hG : GoodIn Ts ws := fun w h => hT w (by unfold wsV; exact List.mem_append_right _ h)
  have hc : Cond.codeWith y bytes maxL ret hh ∈ ws := by rw [hw]; exact List.mem_cons_self
  refine ⟨⟨hrc, hrs, hR.1, hR.2, pay_in ht hG, hc⟩, ht _ (hG _ hc).1, ok _ (by simp [wsV]), ⟨hd.1, hd.2.1⟩, fun sig h => ?_, ok _ (by simp [wsV]), ok _ (by simp [wsV]), ok _ (by simp [wsV])⟩
  have h2 := hd.2.2
  rw [h] at h2
  exact (Option.some.inj h2).symm
theorem vx_runVW {y : MethodName} {bytes cc : ByteArray} {maxL nL mc ms n index : Nat} {ret : Option FieldType} {hh : List (Nat × Nat × Nat × Nat)} {ws : List Cond} {rm : Room} {Pc : Array Value → State → Prop} {Qc : Array Value → State → Outcome → State → Prop} {free : Addr → Prop} {Ts : List Cond} {own C : String} {b : Addr} {As rest : List Value} {g : JFrame}
    (S : CallFix p m c cc nL s args Ts own) (hM : Met l y ws rm Pc Qc mc ms free) (cw : vx_CVW R s args own C index y bytes maxL ret hh ws rm mc ms n) (hp : PreV s H C b Pc As)
    (hg : g.method = m) (hn : As.length = n) (hsize : g.locals.size = nL) (hstack : g.stack = As.reverse ++ .ref b :: rest) (hW : 2 * g.monitorRoom + (rest.map fun v => v.category).sum ≤ 8) (hdg : decode cc g.pc = .ok (.invokevirtual index, 3)) (hf : cells + mc ≤ R.cells ∧ slots + ms ≤ R.slots) :
    va_Run p l e R s m args below meth c H locs cells slots mc ms g rest (Qc (Value.ref b :: As).toArray) free := by
  obtain ⟨⟨hrc, hrs, hfr, hlo, hws, hcw⟩, hcode, hini, hy, hlen, hl, hin, hse⟩ := cw
  have hK : Back l R p e below s args y 3 8 (PreOf R mc ms Pc) (PostOf Qc mc ms free) := va_backW (hh := hh) (bytes := bytes) (maxL := maxL) (ret := ret) hM hp.1 hrc hrs hfr hlo hws hcw (fun a' U hW => word_at hW (Or.inl (by first | rfl | simp [Cond.onTables, Cond.keeps, Cond.steady])) hini)
  obtain ⟨hx, hb, hml, ho, -⟩ := S
  obtain ⟨-, ⟨cellB, hcB, hoB, hclB⟩, hPc⟩ := hp
  intro T hT X
  obtain ⟨v, vm₁, ⟨U', l2, c2, s2⟩, hW₁, X', ⟨g', mk, t, L, e1, e2, hq, h1, hL, h2, h3⟩, st⟩ := vx_callVW X hx (C := C) (hh := hh) (bytes := bytes) (maxL := maxL) (ret := ret) ho hl hin hse hcode hy hK (by rw [hT]; exact hcB) hoB hclB hg (hsize.trans hml.symm) (argsL := As) (rest := rest) (fun sig h => hn.trans (hlen sig h)) hstack hW (by rw [hb]; exact hdg)
    (fun vm₁ hW₁ => ⟨hf.1, hf.2, hPc (T.setVm vm₁) hT hW₁⟩)
  dsimp only [Pt.U, Pt.locs, Pt.cells, Pt.slots] at X' e1 e2 h1 h2 h3 st
  subst h1; subst h2; subst h3
  exact ⟨v, (T.setVm vm₁).calling g' mk (Value.ref b :: As).toArray, t, U', L, hT, X', hL, e1, e2, hq, st⟩
section
variable {y : MethodName} {bytes cc : ByteArray} {maxL nL mc ms n index : Nat} {ret : Option FieldType} {ws : List Cond} {rm : Room} {Pc : Array Value → State → Prop} {Qc : Array Value → State → Outcome → State → Prop} {XC : String → State → State → Prop} {free : Addr → Prop} {Ts : List Cond} {own C : String} {b : Addr} {As rest : List Value} {g : JFrame}
theorem vx_runVX {hh : List (Nat × Nat × Nat × Nat)} (S : CallFix p m c cc nL s args Ts own) (hM : vx_Met l y ws rm Pc Qc XC mc ms free) (cw : vx_CVW R s args own C index y bytes maxL ret hh ws rm mc ms n) (hp : PreV s H C b Pc As)
    (hg : g.method = m) (hn : As.length = n) (hsize : g.locals.size = nL) (hstack : g.stack = As.reverse ++ .ref b :: rest) (hW : 2 * g.monitorRoom + (rest.map fun v => v.category).sum ≤ 8) (hdg : decode cc g.pc = .ok (.invokevirtual index, 3)) (hf : cells + mc ≤ R.cells ∧ slots + ms ≤ R.slots) :
    vx_Run p l e R s m args below meth c H locs cells slots mc ms g rest (Qc (Value.ref b :: As).toArray) XC free := by
  obtain ⟨⟨hrc, hrs, hfr, hlo, hws, hcw⟩, hcode, hini, hy, hlen, hl, hin, hse⟩ := cw
  have hK : vx_Back l R p e below s args y 3 8 (PreOf R mc ms Pc) (PostOf Qc mc ms free) (vx_Post XC mc ms free) := vx_backW (hh := hh) (bytes := bytes) (maxL := maxL) (ret := ret) hM hp.1 hrc hrs hfr hlo hws hcw (fun a' U hW => word_at hW (Or.inl (by first | rfl | simp [Cond.onTables, Cond.keeps, Cond.steady])) hini)
  obtain ⟨hx, hb, hml, ho, -⟩ := S
  obtain ⟨-, ⟨cellB, hcB, hoB, hclB⟩, hPc⟩ := hp
  intro T hT X
  rcases vx_callVX X hx (C := C) (hh := hh) (bytes := bytes) (maxL := maxL) (ret := ret) ho hl hin hse hcode hy hK (by rw [hT]; exact hcB) hoB hclB hg (hsize.trans hml.symm) (argsL := As) (rest := rest) (fun sig h => hn.trans (hlen sig h)) hstack hW (by rw [hb]; exact hdg)
    (fun vm₁ hW₁ => ⟨hf.1, hf.2, hPc (T.setVm vm₁) hT hW₁⟩) with ⟨v, vm₁, ⟨U', l2, c2, s2⟩, hW₁, X', ⟨g', mk, t, L, e1, e2, hq, h1, hL, h2, h3⟩, st⟩ | ⟨q, vm₁, ⟨U', l2, c2, s2⟩, hW₁, X', ⟨g', mk, t, L, E, ce, e1, e2, hq, hce, hcv, hcl, h1, hL, h2, h3⟩, st⟩
  · dsimp only [Pt.U, Pt.locs, Pt.cells, Pt.slots] at X' e1 e2 h1 h2 h3 st
    subst h1; subst h2; subst h3
    exact Or.inl ⟨v, (T.setVm vm₁).calling g' mk (Value.ref b :: As).toArray, t, U', L, hT, X', hL, e1, e2, hq, st⟩
  · dsimp only [Pt.U, Pt.locs, Pt.cells, Pt.slots] at X' e1 e2 h1 h2 h3 st hcl
    subst h1; subst h2; subst h3
    exact Or.inr ⟨q, (T.setVm vm₁).calling g' mk (Value.ref b :: As).toArray, t, U', L, E, ce, hT, X', hL, e1, e2, hq, hce, hcv, vx_cls hW₁ hcl, st⟩
theorem vx_runSX {hh : List (Nat × Nat × Nat × Nat)} (S : CallFix p m c cc nL s args Ts own) (hM : vx_Met l y ws rm Pc Qc XC mc ms free) (cw : vx_CSW R s args own index y bytes maxL ret hh ws rm mc ms n) (hp : PreS s H Pc As)
    (hg : g.method = m) (hn : As.length = n) (hsize : g.locals.size = nL) (hstack : g.stack = As.reverse ++ rest) (hW : 2 * g.monitorRoom + (rest.map fun v => v.category).sum ≤ 8) (hdg : decode cc g.pc = .ok (.invokestatic index, 3)) (hf : cells + mc ≤ R.cells ∧ slots + ms ≤ R.slots) :
    vx_Run p l e R s m args below meth c H locs cells slots mc ms g rest (Qc As.toArray) XC free := by
  obtain ⟨⟨hrc, hrs, hfr, hlo, hws, hcw⟩, hcode, hini, hy, hlen, hl, hstt⟩ := cw
  have hK : vx_Back l R p e below s args y 3 8 (PreOf R mc ms Pc) (PostOf Qc mc ms free) (vx_Post XC mc ms free) := vx_backW (hh := hh) (bytes := bytes) (maxL := maxL) (ret := ret) hM hp.1 hrc hrs hfr hlo hws hcw (fun a' U hW => word_at hW (Or.inl (by first | rfl | simp [Cond.onTables, Cond.keeps, Cond.steady])) hini)
  obtain ⟨hx, hb, hml, ho, -⟩ := S
  intro T hT X
  rcases vx_callSX X hx (hh := hh) (bytes := bytes) (maxL := maxL) (ret := ret) ho hl hstt hini hcode hy hK hg (hsize.trans hml.symm) (argsL := As) (rest := rest) (fun sig h => hn.trans (hlen sig h)) hstack hW (by rw [hb]; exact hdg)
    (fun vm₁ hW₁ => ⟨hf.1, hf.2, hp.2 (T.setVm vm₁) hT hW₁⟩) with ⟨v, vm₁, ⟨U', l2, c2, s2⟩, hW₁, X', ⟨g', mk, t, L, e1, e2, hq, h1, hL, h2, h3⟩, st⟩ | ⟨q, vm₁, ⟨U', l2, c2, s2⟩, hW₁, X', ⟨g', mk, t, L, E, ce, e1, e2, hq, hce, hcv, hcl, h1, hL, h2, h3⟩, st⟩
  · dsimp only [Pt.U, Pt.locs, Pt.cells, Pt.slots] at X' e1 e2 h1 h2 h3 st
    subst h1; subst h2; subst h3
    exact Or.inl ⟨v, (T.setVm vm₁).calling g' mk As.toArray, t, U', L, hT, X', hL, e1, e2, hq, st⟩
  · dsimp only [Pt.U, Pt.locs, Pt.cells, Pt.slots] at X' e1 e2 h1 h2 h3 st hcl
    subst h1; subst h2; subst h3
    exact Or.inr ⟨q, (T.setVm vm₁).calling g' mk As.toArray, t, U', L, E, ce, hT, X', hL, e1, e2, hq, hce, hcv, vx_cls hW₁ hcl, st⟩
end
end VXH
theorem vx_ofWH {l : Launch} {y : MethodName} {ws ws' : List Cond} {rm : Room} {Pc : Array Value → State → Prop} {Qc : Array Value → State → Outcome → State → Prop} {XC : String → State → State → Prop} {mc ms : Nat} {free : Addr → Prop} {cc : ByteArray} {maxL : Nat} {ret : Option FieldType} {hh : List (Nat × Nat × Nat × Nat)}
    (hy : plainName y.cls = true) (hw : ws = Cond.codeWith y cc maxL ret hh :: ws')
    (body : ∀ p e s m args below meth c s₁, BodyLoose p l y (headSpec ws rm) cc maxL ret e s m args below meth c s₁ → c.maxLocals = maxL → Pc args s →
      W p l e (headSpec ws rm).room s m args below meth c s.heap [] 0 0 (vx_MQ below Qc XC args s mc ms free) (entryFrame m args maxL)) : vx_Met l y ws rm Pc Qc XC mc ms free := by
  refine MetFree.of_bodyS (code := cc) (maxLocals := maxL) (ret := ret) hy ?_ ?_
  · intro args s m h hn
    obtain ⟨m9, meth, c, hn9, h1, h2, h3, h4, -, h5, h6, -⟩ := Cond.codeWith_spec (atoms_spec (ws := ws) h _ (by rw [hw]; exact List.mem_cons_self))
    cases hn.symm.trans hn9
    exact ⟨meth, c, h1, h2, h3, h4, h5, h6⟩
  · intro p e s m args below meth c s₁ B hml hP _
    have hh0 : s₁.heap = s.heap := by rw [B.state]; rfl
    obtain ⟨t, a1, o, b1, b2, b3⟩ := body p e s m args below meth c s₁ B hml hP s₁ hh0 (Stand.of_body B)
    exact ⟨t, o, a1, b1, b2, b3⟩
/-! ===== END ===== -/
end
section
def RX0 : String := "PriceDesk$Book"
def TX0 : u_T := fun k => match k with
  | 0 => ("PriceDesk$Book", "now", "I", false)
  | 1 => ("PriceDesk$Book", "indexCount", "I", false)
  | 2 => ("PriceDesk$Book", "contractCount", "I", false)
  | 3 => ("PriceDesk$Book", "indexes", "[LPriceDesk$Index;", true)
  | _ => ("PriceDesk$Book", "contracts", "[LPriceDesk$Contract;", true)
def tyX0 : Nat → FieldType := fun k => match k with
  | 0 => .int
  | 1 => .int
  | 2 => .int
  | 3 => .array (.object "PriceDesk$Index")
  | _ => .array (.object "PriceDesk$Contract")
abbrev wsX00 : List Cond := u_ws RX0 TX0 5
theorem nmX0 : ∀ a, a < 5 → ∀ b, b < 5 → a ≠ b → (TX0 a).2.1 ≠ (TX0 b).2.1 := by decide +kernel
theorem tyX0_ok : ∀ k, k < 5 → parseFieldDescriptor (TX0 k).2.2.1 = some (tyX0 k) := by decide +kernel
abbrev cX0_init : ByteArray := prog_2_method_1_code
def yX0_init : MethodName := ⟨RX0, "<init>", "()V"⟩
abbrev cX0_forget : ByteArray := prog_2_method_2_code
def yX0_forget : MethodName := ⟨RX0, "forget", "()V"⟩
abbrev cX0_addIndex : ByteArray := prog_2_method_3_code
def yX0_addIndex : MethodName := ⟨RX0, "addIndex", "()LPriceDesk$Index;"⟩
abbrev cX0_addContract : ByteArray := prog_2_method_4_code
def yX0_addContract : MethodName := ⟨RX0, "addContract", "()LPriceDesk$Contract;"⟩
abbrev cX0_indexAt : ByteArray := prog_2_method_5_code
def yX0_indexAt : MethodName := ⟨RX0, "indexAt", "(I)LPriceDesk$Index;"⟩
abbrev cX0_contractAt : ByteArray := prog_2_method_6_code
def yX0_contractAt : MethodName := ⟨RX0, "contractAt", "(I)LPriceDesk$Contract;"⟩
abbrev cX0_isPast : ByteArray := prog_2_method_7_code
def yX0_isPast : MethodName := ⟨RX0, "isPast", "(I)Z"⟩
abbrev cX0_isPriced : ByteArray := prog_2_method_8_code
def yX0_isPriced : MethodName := ⟨RX0, "isPriced", "(LPriceDesk$Contract;I)Z"⟩
abbrev cX0_factorOf : ByteArray := prog_2_method_9_code
def yX0_factorOf : MethodName := ⟨RX0, "factorOf", "(LPriceDesk$Contract;I)I"⟩
abbrev cX0_priceFor : ByteArray := prog_2_method_10_code
def yX0_priceFor : MethodName := ⟨RX0, "priceFor", "(LPriceDesk$Contract;I)I"⟩
abbrev cX0_priceWere : ByteArray := prog_2_method_11_code
def yX0_priceWere : MethodName := ⟨RX0, "priceWere", "(LPriceDesk$Contract;LPriceDesk$Index;I)I"⟩
abbrev cX0_waitsFor : ByteArray := prog_2_method_12_code
def yX0_waitsFor : MethodName := ⟨RX0, "waitsFor", "(II)I"⟩
def RX1 : String := "PriceDesk$Contract"
def TX1 : u_T := fun k => match k with
  | 0 => ("PriceDesk$Contract", "price", "I", false)
  | 1 => ("PriceDesk$Contract", "fixed", "I", false)
  | 2 => ("PriceDesk$Contract", "base", "I", false)
  | 3 => ("PriceDesk$Contract", "limit", "I", false)
  | 4 => ("PriceDesk$Contract", "part", "I", false)
  | 5 => ("PriceDesk$Contract", "beyond", "Z", false)
  | 6 => ("PriceDesk$Contract", "terms", "I", false)
  | 7 => ("PriceDesk$Contract", "weights", "[I", true)
  | _ => ("PriceDesk$Contract", "indexes", "[I", true)
def tyX1 : Nat → FieldType := fun k => match k with
  | 0 => .int
  | 1 => .int
  | 2 => .int
  | 3 => .int
  | 4 => .int
  | 5 => .boolean
  | 6 => .int
  | 7 => .array .int
  | _ => .array .int
abbrev wsX10 : List Cond := u_ws RX1 TX1 9
theorem nmX1 : ∀ a, a < 9 → ∀ b, b < 9 → a ≠ b → (TX1 a).2.1 ≠ (TX1 b).2.1 := by decide +kernel
theorem tyX1_ok : ∀ k, k < 9 → parseFieldDescriptor (TX1 k).2.2.1 = some (tyX1 k) := by decide +kernel
abbrev cX1_init : ByteArray := prog_3_method_1_code
def yX1_init : MethodName := ⟨RX1, "<init>", "()V"⟩
abbrev cX1_addTerm : ByteArray := prog_3_method_2_code
def yX1_addTerm : MethodName := ⟨RX1, "addTerm", "(II)V"⟩
abbrev cX1_usesIndex : ByteArray := prog_3_method_3_code
def yX1_usesIndex : MethodName := ⟨RX1, "usesIndex", "(I)Z"⟩
abbrev cX1_thousandths : ByteArray := prog_3_method_4_code
def yX1_thousandths : MethodName := ⟨RX1, "thousandths", "()I"⟩
abbrev cX1_termFigure : ByteArray := prog_3_method_5_code
def yX1_termFigure : MethodName := ⟨RX1, "termFigure", "(I)I"⟩
abbrev cX1_moveBy : ByteArray := prog_3_method_6_code
def yX1_moveBy : MethodName := ⟨RX1, "moveBy", "(I)I"⟩
abbrev cX1_priceBy : ByteArray := prog_3_method_7_code
def yX1_priceBy : MethodName := ⟨RX1, "priceBy", "(I)I"⟩
def RX2 : String := "PriceDesk$Delivery"
def TX2 : u_T := fun k => match k with
  | 0 => ("PriceDesk$Delivery", "contract", "I", false)
  | 1 => ("PriceDesk$Delivery", "due", "I", false)
  | 2 => ("PriceDesk$Delivery", "month", "I", false)
  | 3 => ("PriceDesk$Delivery", "quantity", "I", false)
  | 4 => ("PriceDesk$Delivery", "pricedMonth", "I", false)
  | 5 => ("PriceDesk$Delivery", "price", "I", false)
  | 6 => ("PriceDesk$Delivery", "settledMonth", "I", false)
  | _ => ("PriceDesk$Delivery", "trued", "J", false)
def tyX2 : Nat → FieldType := fun k => match k with
  | 0 => .int
  | 1 => .int
  | 2 => .int
  | 3 => .int
  | 4 => .int
  | 5 => .int
  | 6 => .int
  | _ => .long
abbrev wsX20 : List Cond := u_ws RX2 TX2 8
theorem nmX2 : ∀ a, a < 8 → ∀ b, b < 8 → a ≠ b → (TX2 a).2.1 ≠ (TX2 b).2.1 := by decide +kernel
theorem tyX2_ok : ∀ k, k < 8 → parseFieldDescriptor (TX2 k).2.2.1 = some (tyX2 k) := by decide +kernel
abbrev cX2_init : ByteArray := prog_4_method_1_code
def yX2_init : MethodName := ⟨RX2, "<init>", "()V"⟩
abbrev cX2_take : ByteArray := prog_4_method_2_code
def yX2_take : MethodName := ⟨RX2, "take", "(IIII)V"⟩
abbrev cX2_bill : ByteArray := prog_4_method_3_code
def yX2_bill : MethodName := ⟨RX2, "bill", "(II)V"⟩
abbrev cX2_billed : ByteArray := prog_4_method_4_code
def yX2_billed : MethodName := ⟨RX2, "billed", "()J"⟩
abbrev cX2_isSettled : ByteArray := prog_4_method_5_code
def yX2_isSettled : MethodName := ⟨RX2, "isSettled", "()Z"⟩
abbrev cX2_settle : ByteArray := prog_4_method_6_code
def yX2_settle : MethodName := ⟨RX2, "settle", "(II)V"⟩
abbrev cX2_unsettle : ByteArray := prog_4_method_7_code
def yX2_unsettle : MethodName := ⟨RX2, "unsettle", "()V"⟩
def RX3 : String := "PriceDesk$History"
def TX3 : u_T := fun k => match k with
  | 0 => ("PriceDesk$History", "acts", "[I", true)
  | 1 => ("PriceDesk$History", "indexes", "[I", true)
  | 2 => ("PriceDesk$History", "months", "[I", true)
  | 3 => ("PriceDesk$History", "values", "[I", true)
  | 4 => ("PriceDesk$History", "kinds", "[I", true)
  | 5 => ("PriceDesk$History", "next", "I", false)
  | _ => ("PriceDesk$History", "kept", "I", false)
def tyX3 : Nat → FieldType := fun k => match k with
  | 0 => .array .int
  | 1 => .array .int
  | 2 => .array .int
  | 3 => .array .int
  | 4 => .array .int
  | 5 => .int
  | _ => .int
abbrev wsX30 : List Cond := u_ws RX3 TX3 7
theorem nmX3 : ∀ a, a < 7 → ∀ b, b < 7 → a ≠ b → (TX3 a).2.1 ≠ (TX3 b).2.1 := by decide +kernel
theorem tyX3_ok : ∀ k, k < 7 → parseFieldDescriptor (TX3 k).2.2.1 = some (tyX3 k) := by decide +kernel
abbrev cX3_init : ByteArray := prog_5_method_1_code
def yX3_init : MethodName := ⟨RX3, "<init>", "()V"⟩
abbrev cX3_forget : ByteArray := prog_5_method_2_code
def yX3_forget : MethodName := ⟨RX3, "forget", "()V"⟩
abbrev cX3_keep : ByteArray := prog_5_method_3_code
def yX3_keep : MethodName := ⟨RX3, "keep", "(IIIII)V"⟩
abbrev cX3_takeLatest : ByteArray := prog_5_method_4_code
def yX3_takeLatest : MethodName := ⟨RX3, "takeLatest", "()I"⟩
def RX4 : String := "PriceDesk$Index"
def TX4 : u_T := fun k => match k with
  | 0 => ("PriceDesk$Index", "values", "[I", true)
  | 1 => ("PriceDesk$Index", "kinds", "[I", true)
  | 2 => ("PriceDesk$Index", "rebasedMonths", "[I", true)
  | 3 => ("PriceDesk$Index", "oldNumbers", "[I", true)
  | 4 => ("PriceDesk$Index", "newNumbers", "[I", true)
  | _ => ("PriceDesk$Index", "rebasings", "I", false)
def tyX4 : Nat → FieldType := fun k => match k with
  | 0 => .array .int
  | 1 => .array .int
  | 2 => .array .int
  | 3 => .array .int
  | 4 => .array .int
  | _ => .int
abbrev wsX40 : List Cond := u_ws RX4 TX4 6
theorem nmX4 : ∀ a, a < 6 → ∀ b, b < 6 → a ≠ b → (TX4 a).2.1 ≠ (TX4 b).2.1 := by decide +kernel
theorem tyX4_ok : ∀ k, k < 6 → parseFieldDescriptor (TX4 k).2.2.1 = some (tyX4 k) := by decide +kernel
abbrev cX4_init : ByteArray := prog_6_method_1_code
def yX4_init : MethodName := ⟨RX4, "<init>", "()V"⟩
abbrev cX4_forget : ByteArray := prog_6_method_2_code
def yX4_forget : MethodName := ⟨RX4, "forget", "()V"⟩
abbrev cX4_put : ByteArray := prog_6_method_3_code
def yX4_put : MethodName := ⟨RX4, "put", "(III)V"⟩
abbrev cX4_kindAt : ByteArray := prog_6_method_4_code
def yX4_kindAt : MethodName := ⟨RX4, "kindAt", "(I)I"⟩
abbrev cX4_hasValue : ByteArray := prog_6_method_5_code
def yX4_hasValue : MethodName := ⟨RX4, "hasValue", "(I)Z"⟩
abbrev cX4_valueAt : ByteArray := prog_6_method_6_code
def yX4_valueAt : MethodName := ⟨RX4, "valueAt", "(I)I"⟩
abbrev cX4_knownMonth : ByteArray := prog_6_method_7_code
def yX4_knownMonth : MethodName := ⟨RX4, "knownMonth", "(I)I"⟩
abbrev cX4_hasRebasing : ByteArray := prog_6_method_8_code
def yX4_hasRebasing : MethodName := ⟨RX4, "hasRebasing", "(I)Z"⟩
abbrev cX4_latestRebasing : ByteArray := prog_6_method_9_code
def yX4_latestRebasing : MethodName := ⟨RX4, "latestRebasing", "()I"⟩
abbrev cX4_addRebasing : ByteArray := prog_6_method_10_code
def yX4_addRebasing : MethodName := ⟨RX4, "addRebasing", "(II)V"⟩
abbrev cX4_ratioBetween : ByteArray := prog_6_method_11_code
def yX4_ratioBetween : MethodName := ⟨RX4, "ratioBetween", "(II)I"⟩
def RX5 : String := "PriceDesk$Ledger"
def TX5 : u_T := fun k => match k with
  | 0 => ("PriceDesk$Ledger", "rows", "[LPriceDesk$Delivery;", true)
  | _ => ("PriceDesk$Ledger", "count", "I", false)
def tyX5 : Nat → FieldType := fun k => match k with
  | 0 => .array (.object "PriceDesk$Delivery")
  | _ => .int
abbrev wsX50 : List Cond := u_ws RX5 TX5 2
theorem nmX5 : ∀ a, a < 2 → ∀ b, b < 2 → a ≠ b → (TX5 a).2.1 ≠ (TX5 b).2.1 := by decide +kernel
theorem tyX5_ok : ∀ k, k < 2 → parseFieldDescriptor (TX5 k).2.2.1 = some (tyX5 k) := by decide +kernel
abbrev cX5_init : ByteArray := prog_7_method_1_code
def yX5_init : MethodName := ⟨RX5, "<init>", "()V"⟩
abbrev cX5_rowAt : ByteArray := prog_7_method_2_code
def yX5_rowAt : MethodName := ⟨RX5, "rowAt", "(I)LPriceDesk$Delivery;"⟩
abbrev cX5_addRow : ByteArray := prog_7_method_3_code
def yX5_addRow : MethodName := ⟨RX5, "addRow", "()LPriceDesk$Delivery;"⟩
abbrev cX5_dropLatest : ByteArray := prog_7_method_4_code
def yX5_dropLatest : MethodName := ⟨RX5, "dropLatest", "()V"⟩
abbrev cX5_countSettled : ByteArray := prog_7_method_5_code
def yX5_countSettled : MethodName := ⟨RX5, "countSettled", "()I"⟩
abbrev cX5_settle : ByteArray := prog_7_method_6_code
def yX5_settle : MethodName := ⟨RX5, "settle", "(LPriceDesk$Book;)I"⟩
abbrev cX5_unsettle : ByteArray := prog_7_method_7_code
def yX5_unsettle : MethodName := ⟨RX5, "unsettle", "(I)V"⟩
abbrev cX5_billedFrom : ByteArray := prog_7_method_8_code
def yX5_billedFrom : MethodName := ⟨RX5, "billedFrom", "(II)J"⟩
abbrev cX5_truedFrom : ByteArray := prog_7_method_9_code
def yX5_truedFrom : MethodName := ⟨RX5, "truedFrom", "(II)J"⟩
def RX6 : String := "PriceDesk$Tape"
def TX6 : u_T := fun k => match k with
  | 0 => ("PriceDesk$Tape", "bytes", "[B", true)
  | 1 => ("PriceDesk$Tape", "length", "I", false)
  | 2 => ("PriceDesk$Tape", "start", "I", false)
  | 3 => ("PriceDesk$Tape", "next", "I", false)
  | 4 => ("PriceDesk$Tape", "kind", "I", false)
  | _ => ("PriceDesk$Tape", "number", "I", false)
def tyX6 : Nat → FieldType := fun k => match k with
  | 0 => .array .byte
  | 1 => .int
  | 2 => .int
  | 3 => .int
  | 4 => .int
  | _ => .int
abbrev wsX60 : List Cond := u_ws RX6 TX6 6
theorem nmX6 : ∀ a, a < 6 → ∀ b, b < 6 → a ≠ b → (TX6 a).2.1 ≠ (TX6 b).2.1 := by decide +kernel
theorem tyX6_ok : ∀ k, k < 6 → parseFieldDescriptor (TX6 k).2.2.1 = some (tyX6 k) := by decide +kernel
abbrev cX6_init : ByteArray := prog_8_method_1_code
def yX6_init : MethodName := ⟨RX6, "<init>", "()V"⟩
abbrev cX6_append : ByteArray := prog_8_method_2_code
def yX6_append : MethodName := ⟨RX6, "append", "(I)V"⟩
abbrev cX6_begin : ByteArray := prog_8_method_3_code
def yX6_begin : MethodName := ⟨RX6, "begin", "()V"⟩
abbrev cX6_byteAt : ByteArray := prog_8_method_4_code
def yX6_byteAt : MethodName := ⟨RX6, "byteAt", "(I)I"⟩
abbrev cX6_advance : ByteArray := prog_8_method_5_code
def yX6_advance : MethodName := ⟨RX6, "advance", "()V"⟩
abbrev cX6_cutToken : ByteArray := prog_8_method_6_code
def yX6_cutToken : MethodName := ⟨RX6, "cutToken", "()V"⟩
abbrev cX6_isSign : ByteArray := prog_8_method_7_code
def yX6_isSign : MethodName := ⟨RX6, "isSign", "(C)Z"⟩
abbrev cX6_isWord : ByteArray := prog_8_method_8_code
def yX6_isWord : MethodName := ⟨RX6, "isWord", "(Ljava/lang/String;)Z"⟩
abbrev cX6_isSameAs : ByteArray := prog_8_method_9_code
def yX6_isSameAs : MethodName := ⟨RX6, "isSameAs", "(II)Z"⟩
abbrev cX6_isBlank : ByteArray := prog_8_method_10_code
def yX6_isBlank : MethodName := ⟨RX6, "isBlank", "(I)Z"⟩
def RX7 : String := "PriceDesk$TextReader"
def TX7 : u_T := fun k => match k with
  | 0 => ("PriceDesk$TextReader", "tape", "LPriceDesk$Tape;", true)
  | 1 => ("PriceDesk$TextReader", "namePlaces", "[I", true)
  | 2 => ("PriceDesk$TextReader", "nameSizes", "[I", true)
  | 3 => ("PriceDesk$TextReader", "book", "LPriceDesk$Book;", false)
  | 4 => ("PriceDesk$TextReader", "number", "I", false)
  | _ => ("PriceDesk$TextReader", "faultKind", "I", false)
def tyX7 : Nat → FieldType := fun k => match k with
  | 0 => .object "PriceDesk$Tape"
  | 1 => .array .int
  | 2 => .array .int
  | 3 => .object "PriceDesk$Book"
  | 4 => .int
  | _ => .int
abbrev wsX70 : List Cond := u_ws RX7 TX7 6
theorem nmX7 : ∀ a, a < 6 → ∀ b, b < 6 → a ≠ b → (TX7 a).2.1 ≠ (TX7 b).2.1 := by decide +kernel
theorem tyX7_ok : ∀ k, k < 6 → parseFieldDescriptor (TX7 k).2.2.1 = some (tyX7 k) := by decide +kernel
abbrev cX7_init : ByteArray := prog_9_method_1_code
def yX7_init : MethodName := ⟨RX7, "<init>", "()V"⟩
abbrev cX7_readText : ByteArray := prog_9_method_2_code
def yX7_readText : MethodName := ⟨RX7, "readText", "()I"⟩
abbrev cX7_exchangeBook : ByteArray := prog_9_method_3_code
def yX7_exchangeBook : MethodName := ⟨RX7, "exchangeBook", "(LPriceDesk$Book;)LPriceDesk$Book;"⟩
abbrev cX7_refuse : ByteArray := prog_9_method_4_code
def yX7_refuse : MethodName := ⟨RX7, "refuse", "(I)Z"⟩
abbrev cX7_readNow : ByteArray := prog_9_method_5_code
def yX7_readNow : MethodName := ⟨RX7, "readNow", "()Z"⟩
abbrev cX7_readIndex : ByteArray := prog_9_method_6_code
def yX7_readIndex : MethodName := ⟨RX7, "readIndex", "()Z"⟩
abbrev cX7_readValues : ByteArray := prog_9_method_7_code
def yX7_readValues : MethodName := ⟨RX7, "readValues", "(LPriceDesk$Index;)Z"⟩
abbrev cX7_readValue : ByteArray := prog_9_method_8_code
def yX7_readValue : MethodName := ⟨RX7, "readValue", "(LPriceDesk$Index;I)Z"⟩
abbrev cX7_readContract : ByteArray := prog_9_method_9_code
def yX7_readContract : MethodName := ⟨RX7, "readContract", "()Z"⟩
abbrev cX7_readTerms : ByteArray := prog_9_method_10_code
def yX7_readTerms : MethodName := ⟨RX7, "readTerms", "(LPriceDesk$Contract;)Z"⟩
abbrev cX7_readBase : ByteArray := prog_9_method_11_code
def yX7_readBase : MethodName := ⟨RX7, "readBase", "(LPriceDesk$Contract;)Z"⟩
abbrev cX7_readRule : ByteArray := prog_9_method_12_code
def yX7_readRule : MethodName := ⟨RX7, "readRule", "(LPriceDesk$Contract;)Z"⟩
abbrev cX7_readSign : ByteArray := prog_9_method_13_code
def yX7_readSign : MethodName := ⟨RX7, "readSign", "(C)Z"⟩
abbrev cX7_readWord : ByteArray := prog_9_method_14_code
def yX7_readWord : MethodName := ⟨RX7, "readWord", "(Ljava/lang/String;)Z"⟩
abbrev cX7_readNumber : ByteArray := prog_9_method_15_code
def yX7_readNumber : MethodName := ⟨RX7, "readNumber", "(II)Z"⟩
abbrev cX7_isNumber : ByteArray := prog_9_method_16_code
def yX7_isNumber : MethodName := ⟨RX7, "isNumber", "(II)Z"⟩
abbrev cX7_isName : ByteArray := prog_9_method_17_code
def yX7_isName : MethodName := ⟨RX7, "isName", "()Z"⟩
abbrev cX7_keepName : ByteArray := prog_9_method_18_code
def yX7_keepName : MethodName := ⟨RX7, "keepName", "(I)V"⟩
abbrev cX7_indexNamed : ByteArray := prog_9_method_19_code
def yX7_indexNamed : MethodName := ⟨RX7, "indexNamed", "(I)I"⟩
def RX8 : String := "PriceDesk"
def TX8 : u_T := fun k => match k with
  | 0 => ("PriceDesk", "reader", "LPriceDesk$TextReader;", true)
  | 1 => ("PriceDesk", "book", "LPriceDesk$Book;", false)
  | 2 => ("PriceDesk", "ledger", "LPriceDesk$Ledger;", true)
  | _ => ("PriceDesk", "history", "LPriceDesk$History;", true)
def tyX8 : Nat → FieldType := fun k => match k with
  | 0 => .object "PriceDesk$TextReader"
  | 1 => .object "PriceDesk$Book"
  | 2 => .object "PriceDesk$Ledger"
  | _ => .object "PriceDesk$History"
abbrev wsX80 : List Cond := u_ws RX8 TX8 4
theorem nmX8 : ∀ a, a < 4 → ∀ b, b < 4 → a ≠ b → (TX8 a).2.1 ≠ (TX8 b).2.1 := by decide +kernel
theorem tyX8_ok : ∀ k, k < 4 → parseFieldDescriptor (TX8 k).2.2.1 = some (tyX8 k) := by decide +kernel
abbrev cX8_init : ByteArray := prog_1_method_1_code
def yX8_init : MethodName := ⟨RX8, "<init>", "()V"⟩
abbrev cX8_feed : ByteArray := prog_1_method_2_code
def yX8_feed : MethodName := ⟨RX8, "feed", "(IIIII)I"⟩
abbrev cX8_end : ByteArray := prog_1_method_3_code
def yX8_end : MethodName := ⟨RX8, "end", "(I)Z"⟩
abbrev cX8_text : ByteArray := prog_1_method_4_code
def yX8_text : MethodName := ⟨RX8, "text", "()I"⟩
abbrev cX8_fault : ByteArray := prog_1_method_5_code
def yX8_fault : MethodName := ⟨RX8, "fault", "()I"⟩
abbrev cX8_now : ByteArray := prog_1_method_6_code
def yX8_now : MethodName := ⟨RX8, "now", "(I)I"⟩
abbrev cX8_value : ByteArray := prog_1_method_7_code
def yX8_value : MethodName := ⟨RX8, "value", "(III)I"⟩
abbrev cX8_rebased : ByteArray := prog_1_method_8_code
def yX8_rebased : MethodName := ⟨RX8, "rebased", "(III)I"⟩
abbrev cX8_ratio : ByteArray := prog_1_method_9_code
def yX8_ratio : MethodName := ⟨RX8, "ratio", "(III)I"⟩
abbrev cX8_contract : ByteArray := prog_1_method_10_code
def yX8_contract : MethodName := ⟨RX8, "contract", "(II)I"⟩
abbrev cX8_price : ByteArray := prog_1_method_11_code
def yX8_price : MethodName := ⟨RX8, "price", "(III)I"⟩
abbrev cX8_were : ByteArray := prog_1_method_12_code
def yX8_were : MethodName := ⟨RX8, "were", "(III)I"⟩
abbrev cX8_rises : ByteArray := prog_1_method_13_code
def yX8_rises : MethodName := ⟨RX8, "rises", "(II)I"⟩
abbrev cX8_delivery : ByteArray := prog_1_method_14_code
def yX8_delivery : MethodName := ⟨RX8, "delivery", "(II)I"⟩
abbrev cX8_amount : ByteArray := prog_1_method_15_code
def yX8_amount : MethodName := ⟨RX8, "amount", "(II)J"⟩
abbrev cX8_statement : ByteArray := prog_1_method_16_code
def yX8_statement : MethodName := ⟨RX8, "statement", "(II)J"⟩
abbrev cX8_publish : ByteArray := prog_1_method_17_code
def yX8_publish : MethodName := ⟨RX8, "publish", "(IIIZ)I"⟩
abbrev cX8_rebase : ByteArray := prog_1_method_18_code
def yX8_rebase : MethodName := ⟨RX8, "rebase", "(III)I"⟩
abbrev cX8_deliver : ByteArray := prog_1_method_19_code
def yX8_deliver : MethodName := ⟨RX8, "deliver", "(III)I"⟩
abbrev cX8_close : ByteArray := prog_1_method_20_code
def yX8_close : MethodName := ⟨RX8, "close", "()I"⟩
abbrev cX8_undo : ByteArray := prog_1_method_21_code
def yX8_undo : MethodName := ⟨RX8, "undo", "()I"⟩
abbrev cX8_takeBackValue : ByteArray := prog_1_method_22_code
def yX8_takeBackValue : MethodName := ⟨RX8, "takeBackValue", "(I)V"⟩
abbrev cX8_takeBackRebasing : ByteArray := prog_1_method_23_code
def yX8_takeBackRebasing : MethodName := ⟨RX8, "takeBackRebasing", "(I)V"⟩
abbrev cX8_takeBackClose : ByteArray := prog_1_method_24_code
def yX8_takeBackClose : MethodName := ⟨RX8, "takeBackClose", "()V"⟩
abbrev cX8_isMonth : ByteArray := prog_1_method_25_code
def yX8_isMonth : MethodName := ⟨RX8, "isMonth", "(I)Z"⟩
abbrev cX8_isValue : ByteArray := prog_1_method_26_code
def yX8_isValue : MethodName := ⟨RX8, "isValue", "(I)Z"⟩
def RX9 : String := "PriceDeskModel"
def TX9 : u_T := fun k => match k with
  | 0 => ("PriceDeskModel", "thrown", "I", false)
  | 1 => ("PriceDeskModel", "tape", "[I", true)
  | 2 => ("PriceDeskModel", "taped", "I", false)
  | 3 => ("PriceDeskModel", "size", "I", false)
  | 4 => ("PriceDeskModel", "to", "I", false)
  | 5 => ("PriceDeskModel", "from", "I", false)
  | 6 => ("PriceDeskModel", "sort", "I", false)
  | 7 => ("PriceDeskModel", "number", "I", false)
  | 8 => ("PriceDeskModel", "sign", "I", false)
  | 9 => ("PriceDeskModel", "fault", "I", false)
  | 10 => ("PriceDeskModel", "place", "I", false)
  | 11 => ("PriceDeskModel", "word", "J", false)
  | 12 => ("PriceDeskModel", "now", "[I", true)
  | 13 => ("PriceDeskModel", "read", "[I", true)
  | 14 => ("PriceDeskModel", "snaps", "[I", true)
  | 15 => ("PriceDeskModel", "names", "[J", true)
  | _ => ("PriceDeskModel", "snapMany", "I", false)
def tyX9 : Nat → FieldType := fun k => match k with
  | 0 => .int
  | 1 => .array .int
  | 2 => .int
  | 3 => .int
  | 4 => .int
  | 5 => .int
  | 6 => .int
  | 7 => .int
  | 8 => .int
  | 9 => .int
  | 10 => .int
  | 11 => .long
  | 12 => .array .int
  | 13 => .array .int
  | 14 => .array .int
  | 15 => .array .long
  | _ => .int
abbrev wsX90 : List Cond := u_ws RX9 TX9 17
theorem nmX9 : ∀ a, a < 17 → ∀ b, b < 17 → a ≠ b → (TX9 a).2.1 ≠ (TX9 b).2.1 := by decide +kernel
theorem tyX9_ok : ∀ k, k < 17 → parseFieldDescriptor (TX9 k).2.2.1 = some (tyX9 k) := by decide +kernel
abbrev cX9_thrown : ByteArray := prog_11_method_1_code
def yX9_thrown : MethodName := ⟨RX9, "thrown", "()I"⟩
abbrev cX9_refuse : ByteArray := prog_11_method_2_code
def yX9_refuse : MethodName := ⟨RX9, "refuse", "()I"⟩
abbrev cX9_isIn : ByteArray := prog_11_method_3_code
def yX9_isIn : MethodName := ⟨RX9, "isIn", "(III)Z"⟩
abbrev cX9_lays : ByteArray := prog_11_method_4_code
def yX9_lays : MethodName := ⟨RX9, "lays", "(I)V"⟩
abbrev cX9_feed : ByteArray := prog_11_method_5_code
def yX9_feed : MethodName := ⟨RX9, "feed", "(IIIII)I"⟩
abbrev cX9_end : ByteArray := prog_11_method_6_code
def yX9_end : MethodName := ⟨RX9, "end", "(I)Z"⟩
abbrev cX9_tapeAt : ByteArray := prog_11_method_7_code
def yX9_tapeAt : MethodName := ⟨RX9, "tapeAt", "(I)I"⟩
abbrev cX9_isDigit : ByteArray := prog_11_method_8_code
def yX9_isDigit : MethodName := ⟨RX9, "isDigit", "(I)Z"⟩
abbrev cX9_isLetter : ByteArray := prog_11_method_9_code
def yX9_isLetter : MethodName := ⟨RX9, "isLetter", "(I)Z"⟩
abbrev cX9_go : ByteArray := prog_11_method_10_code
def yX9_go : MethodName := ⟨RX9, "go", "()V"⟩
abbrev cX9_four : ByteArray := prog_11_method_11_code
def yX9_four : MethodName := ⟨RX9, "four", "(IIII)J"⟩
abbrev cX9_wordOf : ByteArray := prog_11_method_12_code
def yX9_wordOf : MethodName := ⟨RX9, "wordOf", "(I)J"⟩
abbrev cX9_is : ByteArray := prog_11_method_13_code
def yX9_is : MethodName := ⟨RX9, "is", "(I)Z"⟩
abbrev cX9_isName : ByteArray := prog_11_method_14_code
def yX9_isName : MethodName := ⟨RX9, "isName", "()Z"⟩
abbrev cX9_isSign : ByteArray := prog_11_method_15_code
def yX9_isSign : MethodName := ⟨RX9, "isSign", "(I)Z"⟩
abbrev cX9_bad : ByteArray := prog_11_method_16_code
def yX9_bad : MethodName := ⟨RX9, "bad", "(I)Z"⟩
abbrev cX9_init : ByteArray := prog_11_method_17_code
def yX9_init : MethodName := ⟨RX9, "<init>", "()V"⟩
abbrev cX9_told : ByteArray := prog_11_method_18_code
def yX9_told : MethodName := ⟨RX9, "told", "(III)Z"⟩
abbrev cX9_named : ByteArray := prog_11_method_19_code
def yX9_named : MethodName := ⟨RX9, "named", "()I"⟩
abbrev cX9_readWord : ByteArray := prog_11_method_20_code
def yX9_readWord : MethodName := ⟨RX9, "readWord", "(I)Z"⟩
abbrev cX9_readIndex : ByteArray := prog_11_method_21_code
def yX9_readIndex : MethodName := ⟨RX9, "readIndex", "()Z"⟩
abbrev cX9_readTerms : ByteArray := prog_11_method_22_code
def yX9_readTerms : MethodName := ⟨RX9, "readTerms", "(I)Z"⟩
abbrev cX9_readBase : ByteArray := prog_11_method_23_code
def yX9_readBase : MethodName := ⟨RX9, "readBase", "(I)Z"⟩
abbrev cX9_readContract : ByteArray := prog_11_method_24_code
def yX9_readContract : MethodName := ⟨RX9, "readContract", "()Z"⟩
abbrev cX9_readLine : ByteArray := prog_11_method_25_code
def yX9_readLine : MethodName := ⟨RX9, "readLine", "(Z)Z"⟩
abbrev cX9_readEnd : ByteArray := prog_11_method_26_code
def yX9_readEnd : MethodName := ⟨RX9, "readEnd", "()Z"⟩
abbrev cX9_text : ByteArray := prog_11_method_27_code
def yX9_text : MethodName := ⟨RX9, "text", "()I"⟩
abbrev cX9_fault : ByteArray := prog_11_method_28_code
def yX9_fault : MethodName := ⟨RX9, "fault", "()I"⟩
abbrev cX9_month : ByteArray := prog_11_method_29_code
def yX9_month : MethodName := ⟨RX9, "month", "()I"⟩
abbrev cX9_isIndex : ByteArray := prog_11_method_30_code
def yX9_isIndex : MethodName := ⟨RX9, "isIndex", "(I)Z"⟩
abbrev cX9_isContract : ByteArray := prog_11_method_31_code
def yX9_isContract : MethodName := ⟨RX9, "isContract", "(I)Z"⟩
abbrev cX9_isDelivery : ByteArray := prog_11_method_32_code
def yX9_isDelivery : MethodName := ⟨RX9, "isDelivery", "(I)Z"⟩
abbrev cX9_isMonth : ByteArray := prog_11_method_33_code
def yX9_isMonth : MethodName := ⟨RX9, "isMonth", "(I)Z"⟩
abbrev cX9_sureOf : ByteArray := prog_11_method_34_code
def yX9_sureOf : MethodName := ⟨RX9, "sureOf", "(II)I"⟩
abbrev cX9_valueOf : ByteArray := prog_11_method_35_code
def yX9_valueOf : MethodName := ⟨RX9, "valueOf", "(II)I"⟩
abbrev cX9_knownAt : ByteArray := prog_11_method_36_code
def yX9_knownAt : MethodName := ⟨RX9, "knownAt", "(II)I"⟩
abbrev cX9_settled : ByteArray := prog_11_method_37_code
def yX9_settled : MethodName := ⟨RX9, "settled", "()I"⟩
abbrev cX9_now : ByteArray := prog_11_method_38_code
def yX9_now : MethodName := ⟨RX9, "now", "(I)I"⟩
abbrev cX9_value : ByteArray := prog_11_method_39_code
def yX9_value : MethodName := ⟨RX9, "value", "(III)I"⟩
abbrev cX9_baseOf : ByteArray := prog_11_method_40_code
def yX9_baseOf : MethodName := ⟨RX9, "baseOf", "(III)I"⟩
abbrev cX9_rebased : ByteArray := prog_11_method_41_code
def yX9_rebased : MethodName := ⟨RX9, "rebased", "(III)I"⟩
abbrev cX9_ratioOf : ByteArray := prog_11_method_42_code
def yX9_ratioOf : MethodName := ⟨RX9, "ratioOf", "(III)I"⟩
abbrev cX9_ratio : ByteArray := prog_11_method_43_code
def yX9_ratio : MethodName := ⟨RX9, "ratio", "(III)I"⟩
abbrev cX9_toldBy : ByteArray := prog_11_method_44_code
def yX9_toldBy : MethodName := ⟨RX9, "toldBy", "(II)I"⟩
abbrev cX9_contract : ByteArray := prog_11_method_45_code
def yX9_contract : MethodName := ⟨RX9, "contract", "(II)I"⟩
abbrev cX9_factorOf : ByteArray := prog_11_method_46_code
def yX9_factorOf : MethodName := ⟨RX9, "factorOf", "(II)I"⟩
abbrev cX9_moveOf : ByteArray := prog_11_method_47_code
def yX9_moveOf : MethodName := ⟨RX9, "moveOf", "(II)I"⟩
abbrev cX9_priceOf : ByteArray := prog_11_method_48_code
def yX9_priceOf : MethodName := ⟨RX9, "priceOf", "(II)I"⟩
abbrev cX9_price : ByteArray := prog_11_method_49_code
def yX9_price : MethodName := ⟨RX9, "price", "(III)I"⟩
abbrev cX9_priceBy : ByteArray := prog_11_method_50_code
def yX9_priceBy : MethodName := ⟨RX9, "priceBy", "(III)I"⟩
abbrev cX9_were : ByteArray := prog_11_method_51_code
def yX9_were : MethodName := ⟨RX9, "were", "(III)I"⟩
abbrev cX9_rises : ByteArray := prog_11_method_52_code
def yX9_rises : MethodName := ⟨RX9, "rises", "(II)I"⟩
abbrev cX9_its : ByteArray := prog_11_method_53_code
def yX9_its : MethodName := ⟨RX9, "its", "(II)I"⟩
abbrev cX9_waits : ByteArray := prog_11_method_54_code
def yX9_waits : MethodName := ⟨RX9, "waits", "(I)I"⟩
abbrev cX9_delivery : ByteArray := prog_11_method_55_code
def yX9_delivery : MethodName := ⟨RX9, "delivery", "(II)I"⟩
abbrev cX9_billed : ByteArray := prog_11_method_56_code
def yX9_billed : MethodName := ⟨RX9, "billed", "(I)J"⟩
abbrev cX9_amount : ByteArray := prog_11_method_57_code
def yX9_amount : MethodName := ⟨RX9, "amount", "(II)J"⟩
abbrev cX9_statement : ByteArray := prog_11_method_58_code
def yX9_statement : MethodName := ⟨RX9, "statement", "(II)J"⟩
abbrev cX9_snap : ByteArray := prog_11_method_59_code
def yX9_snap : MethodName := ⟨RX9, "snap", "()V"⟩
abbrev cX9_lastBase : ByteArray := prog_11_method_60_code
def yX9_lastBase : MethodName := ⟨RX9, "lastBase", "(I)I"⟩
abbrev cX9_publish : ByteArray := prog_11_method_61_code
def yX9_publish : MethodName := ⟨RX9, "publish", "(IIIZ)I"⟩
abbrev cX9_rebase : ByteArray := prog_11_method_62_code
def yX9_rebase : MethodName := ⟨RX9, "rebase", "(III)I"⟩
abbrev cX9_deliver : ByteArray := prog_11_method_63_code
def yX9_deliver : MethodName := ⟨RX9, "deliver", "(III)I"⟩
abbrev cX9_close : ByteArray := prog_11_method_64_code
def yX9_close : MethodName := ⟨RX9, "close", "()I"⟩
abbrev cX9_undo : ByteArray := prog_11_method_65_code
def yX9_undo : MethodName := ⟨RX9, "undo", "()I"⟩
def RJx145de : String := "java/io/Serializable"
def TJx145de : u_T := fun k => match k with
  | _ => ("", "", "", false)
def tyJx145de : Nat → FieldType := fun k => match k with
  | _ => .int
abbrev wsJx145de0 : List Cond := u_ws RJx145de TJx145de 0
theorem nmJx145de : ∀ a, a < 0 → ∀ b, b < 0 → a ≠ b → (TJx145de a).2.1 ≠ (TJx145de b).2.1 := by decide +kernel
theorem tyJx145de_ok : ∀ k, k < 0 → parseFieldDescriptor (TJx145de k).2.2.1 = some (tyJx145de k) := by decide +kernel
def RJx9f9b0 : String := "java/lang/CharSequence"
def TJx9f9b0 : u_T := fun k => match k with
  | _ => ("", "", "", false)
def tyJx9f9b0 : Nat → FieldType := fun k => match k with
  | _ => .int
abbrev wsJx9f9b00 : List Cond := u_ws RJx9f9b0 TJx9f9b0 0
theorem nmJx9f9b0 : ∀ a, a < 0 → ∀ b, b < 0 → a ≠ b → (TJx9f9b0 a).2.1 ≠ (TJx9f9b0 b).2.1 := by decide +kernel
theorem tyJx9f9b0_ok : ∀ k, k < 0 → parseFieldDescriptor (TJx9f9b0 k).2.2.1 = some (tyJx9f9b0 k) := by decide +kernel
def RJxb160c : String := "java/lang/Comparable"
def TJxb160c : u_T := fun k => match k with
  | _ => ("", "", "", false)
def tyJxb160c : Nat → FieldType := fun k => match k with
  | _ => .int
abbrev wsJxb160c0 : List Cond := u_ws RJxb160c TJxb160c 0
theorem nmJxb160c : ∀ a, a < 0 → ∀ b, b < 0 → a ≠ b → (TJxb160c a).2.1 ≠ (TJxb160c b).2.1 := by decide +kernel
theorem tyJxb160c_ok : ∀ k, k < 0 → parseFieldDescriptor (TJxb160c k).2.2.1 = some (tyJxb160c k) := by decide +kernel
def RJ9 : String := "java/lang/Math"
def TJ9 : u_T := fun k => match k with
  | _ => ("", "", "", false)
def tyJ9 : Nat → FieldType := fun k => match k with
  | _ => .int
abbrev wsJ90 : List Cond := u_ws RJ9 TJ9 0
theorem nmJ9 : ∀ a, a < 0 → ∀ b, b < 0 → a ≠ b → (TJ9 a).2.1 ≠ (TJ9 b).2.1 := by decide +kernel
theorem tyJ9_ok : ∀ k, k < 0 → parseFieldDescriptor (TJ9 k).2.2.1 = some (tyJ9 k) := by decide +kernel
abbrev cJ9_abs_0f7a4 : ByteArray := prog_16_method_59_code
def yJ9_abs_0f7a4 : MethodName := ⟨RJ9, "abs", "(I)I"⟩
abbrev cJ9_max_7cf53 : ByteArray := prog_16_method_65_code
def yJ9_max_7cf53 : MethodName := ⟨RJ9, "max", "(II)I"⟩
abbrev cJ9_min_7cf53 : ByteArray := prog_16_method_69_code
def yJ9_min_7cf53 : MethodName := ⟨RJ9, "min", "(II)I"⟩
abbrev cJ9_min_f86c9 : ByteArray := prog_16_method_70_code
def yJ9_min_f86c9 : MethodName := ⟨RJ9, "min", "(JJ)J"⟩
def RJ0 : String := "java/lang/String"
def TJ0 : u_T := fun k => match k with
  | _ => ("", "", "", false)
def tyJ0 : Nat → FieldType := fun k => match k with
  | _ => .int
abbrev wsJ00 : List Cond := u_ws RJ0 TJ0 0
theorem nmJ0 : ∀ a, a < 0 → ∀ b, b < 0 → a ≠ b → (TJ0 a).2.1 ≠ (TJ0 b).2.1 := by decide +kernel
theorem tyJ0_ok : ∀ k, k < 0 → parseFieldDescriptor (TJ0 k).2.2.1 = some (tyJ0 k) := by decide +kernel
abbrev cJ0_length_8abf5 : ByteArray := prog_18_method_54_code
def yJ0_length_8abf5 : MethodName := ⟨RJ0, "length", "()I"⟩
abbrev cJ0_charAt_5068e : ByteArray := prog_18_method_56_code
def yJ0_charAt_5068e : MethodName := ⟨RJ0, "charAt", "(I)C"⟩
abbrev cJ0_coder_7d493 : ByteArray := prog_18_method_152_code
def yJ0_coder_7d493 : MethodName := ⟨RJ0, "coder", "()B"⟩
abbrev cJ0_isLatin1_aae02 : ByteArray := prog_18_method_154_code
def yJ0_isLatin1_aae02 : MethodName := ⟨RJ0, "isLatin1", "()Z"⟩
abbrev cJ0_checkIndex_df160 : ByteArray := prog_18_method_155_code
def yJ0_checkIndex_df160 : MethodName := ⟨RJ0, "checkIndex", "(II)V"⟩
def RJ1 : String := "java/lang/StringLatin1"
def TJ1 : u_T := fun k => match k with
  | _ => ("", "", "", false)
def tyJ1 : Nat → FieldType := fun k => match k with
  | _ => .int
abbrev wsJ10 : List Cond := u_ws RJ1 TJ1 0
theorem nmJ1 : ∀ a, a < 0 → ∀ b, b < 0 → a ≠ b → (TJ1 a).2.1 ≠ (TJ1 b).2.1 := by decide +kernel
theorem tyJ1_ok : ∀ k, k < 0 → parseFieldDescriptor (TJ1 k).2.2.1 = some (tyJ1 k) := by decide +kernel
abbrev cJ1_charAt_3b067 : ByteArray := prog_19_method_2_code
def yJ1_charAt_3b067 : MethodName := ⟨RJ1, "charAt", "([BI)C"⟩
def RJ2 : String := "java/lang/StringUTF16"
def TJ2 : u_T := fun k => match k with
  | _ => ("", "", "", false)
def tyJ2 : Nat → FieldType := fun k => match k with
  | _ => .int
abbrev wsJ20 : List Cond := u_ws RJ2 TJ2 0
theorem nmJ2 : ∀ a, a < 0 → ∀ b, b < 0 → a ≠ b → (TJ2 a).2.1 ≠ (TJ2 b).2.1 := by decide +kernel
theorem tyJ2_ok : ∀ k, k < 0 → parseFieldDescriptor (TJ2 k).2.2.1 = some (tyJ2 k) := by decide +kernel
abbrev cJ2_getChar_3b067 : ByteArray := prog_20_method_5_code
def yJ2_getChar_3b067 : MethodName := ⟨RJ2, "getChar", "([BI)C"⟩
abbrev cJ2_length_9d52b : ByteArray := prog_20_method_6_code
def yJ2_length_9d52b : MethodName := ⟨RJ2, "length", "([B)I"⟩
abbrev cJ2_charAt_3b067 : ByteArray := prog_20_method_83_code
def yJ2_charAt_3b067 : MethodName := ⟨RJ2, "charAt", "([BI)C"⟩
abbrev cJ2_checkIndex_2214a : ByteArray := prog_20_method_91_code
def yJ2_checkIndex_2214a : MethodName := ⟨RJ2, "checkIndex", "(I[B)V"⟩
def RJxfd54e : String := "java/lang/constant/Constable"
def TJxfd54e : u_T := fun k => match k with
  | _ => ("", "", "", false)
def tyJxfd54e : Nat → FieldType := fun k => match k with
  | _ => .int
abbrev wsJxfd54e0 : List Cond := u_ws RJxfd54e TJxfd54e 0
theorem nmJxfd54e : ∀ a, a < 0 → ∀ b, b < 0 → a ≠ b → (TJxfd54e a).2.1 ≠ (TJxfd54e b).2.1 := by decide +kernel
theorem tyJxfd54e_ok : ∀ k, k < 0 → parseFieldDescriptor (TJxfd54e k).2.2.1 = some (tyJxfd54e k) := by decide +kernel
def RJx3cf43 : String := "java/lang/constant/ConstantDesc"
def TJx3cf43 : u_T := fun k => match k with
  | _ => ("", "", "", false)
def tyJx3cf43 : Nat → FieldType := fun k => match k with
  | _ => .int
abbrev wsJx3cf430 : List Cond := u_ws RJx3cf43 TJx3cf43 0
theorem nmJx3cf43 : ∀ a, a < 0 → ∀ b, b < 0 → a ≠ b → (TJx3cf43 a).2.1 ≠ (TJx3cf43 b).2.1 := by decide +kernel
theorem tyJx3cf43_ok : ∀ k, k < 0 → parseFieldDescriptor (TJx3cf43 k).2.2.1 = some (tyJx3cf43 k) := by decide +kernel
def RJ3 : String := "jdk/internal/util/Preconditions"
def TJ3 : u_T := fun k => match k with
  | _ => ("", "", "", false)
def tyJ3 : Nat → FieldType := fun k => match k with
  | _ => .int
abbrev wsJ30 : List Cond := u_ws RJ3 TJ3 0
theorem nmJ3 : ∀ a, a < 0 → ∀ b, b < 0 → a ≠ b → (TJ3 a).2.1 ≠ (TJ3 b).2.1 := by decide +kernel
theorem tyJ3_ok : ∀ k, k < 0 → parseFieldDescriptor (TJ3 k).2.2.1 = some (tyJ3 k) := by decide +kernel
abbrev cJ3_checkIndex_8e157 : ByteArray := prog_25_method_11_code
def yJ3_checkIndex_8e157 : MethodName := ⟨RJ3, "checkIndex", "(IILjava/util/function/BiFunction;)I"⟩
def RL : String := "PriceDeskLaw"
abbrev cL_ratio : ByteArray := method_3_code
def yL_ratio : MethodName := ⟨RL, "ratio", "(LPriceDesk;III[J)I"⟩
abbrev cL_price : ByteArray := method_4_code
def yL_price : MethodName := ⟨RL, "price", "(LPriceDesk;III[J)I"⟩
abbrev cL_amount : ByteArray := method_5_code
def yL_amount : MethodName := ⟨RL, "amount", "(LPriceDesk;II[J)I"⟩
abbrev cL_statement : ByteArray := method_6_code
def yL_statement : MethodName := ⟨RL, "statement", "(LPriceDesk;II[J)I"⟩
abbrev cL_law : ByteArray := code
def yL_law : MethodName := ⟨RL, "law", "([I)Z"⟩
def wsJ0_coder_7d493 : List Cond := .code yJ0_coder_7d493 cJ0_coder_7d493 1 (some .byte) :: ([.fieldLink RJ0 38 "java/lang/String" "COMPACT_STRINGS" "Z", .fieldLink RJ0 15 "java/lang/String" "coder" "B"])
def wsJ0_length_8abf5 : List Cond := .code yJ0_length_8abf5 cJ0_length_8abf5 1 (some .int) :: ([.fieldLink RJ0 9 "java/lang/String" "value" "[B", .methodLink RJ0 335 yJ0_coder_7d493, .instanceMethod yJ0_coder_7d493, .selects RJ0 yJ0_coder_7d493 yJ0_coder_7d493, .initialized RJ0, .code yJ0_coder_7d493 cJ0_coder_7d493 1 (some .byte), .fieldLink RJ0 38 "java/lang/String" "COMPACT_STRINGS" "Z", .fieldLink RJ0 15 "java/lang/String" "coder" "B"])
def wsJ0_isLatin1_aae02 : List Cond := .code yJ0_isLatin1_aae02 cJ0_isLatin1_aae02 1 (some .boolean) :: ([.fieldLink RJ0 38 "java/lang/String" "COMPACT_STRINGS" "Z", .fieldLink RJ0 15 "java/lang/String" "coder" "B"])
def wsJ3_checkIndex_8e157 : List Cond := .code yJ3_checkIndex_8e157 cJ3_checkIndex_8e157 3 (some .int) :: ([])
def wsJ0_checkIndex_df160 : List Cond := .code yJ0_checkIndex_df160 cJ0_checkIndex_df160 2 none :: ([.fieldLink RJ0 1053 "jdk/internal/util/Preconditions" "SIOOBE_FORMATTER" "Ljava/util/function/BiFunction;", .methodLink RJ0 1059 yJ3_checkIndex_8e157, .static yJ3_checkIndex_8e157, .initialized RJ3, .code yJ3_checkIndex_8e157 cJ3_checkIndex_8e157 3 (some .int)])
def wsJ1_charAt_3b067 : List Cond := .code yJ1_charAt_3b067 cJ1_charAt_3b067 2 (some .char) :: ([.methodLink RJ1 9 yJ0_checkIndex_df160, .static yJ0_checkIndex_df160, .initialized RJ0, .code yJ0_checkIndex_df160 cJ0_checkIndex_df160 2 none, .fieldLink RJ0 1053 "jdk/internal/util/Preconditions" "SIOOBE_FORMATTER" "Ljava/util/function/BiFunction;", .methodLink RJ0 1059 yJ3_checkIndex_8e157, .static yJ3_checkIndex_8e157, .initialized RJ3, .code yJ3_checkIndex_8e157 cJ3_checkIndex_8e157 3 (some .int)])
def wsJ2_length_9d52b : List Cond := .code yJ2_length_9d52b cJ2_length_9d52b 1 (some .int) :: ([])
def wsJ2_checkIndex_2214a : List Cond := .code yJ2_checkIndex_2214a cJ2_checkIndex_2214a 2 none :: ([.methodLink RJ2 48 yJ2_length_9d52b, .static yJ2_length_9d52b, .initialized RJ2, .code yJ2_length_9d52b cJ2_length_9d52b 1 (some .int), .methodLink RJ2 414 yJ0_checkIndex_df160, .static yJ0_checkIndex_df160, .initialized RJ0, .code yJ0_checkIndex_df160 cJ0_checkIndex_df160 2 none, .fieldLink RJ0 1053 "jdk/internal/util/Preconditions" "SIOOBE_FORMATTER" "Ljava/util/function/BiFunction;", .methodLink RJ0 1059 yJ3_checkIndex_8e157, .static yJ3_checkIndex_8e157, .initialized RJ3, .code yJ3_checkIndex_8e157 cJ3_checkIndex_8e157 3 (some .int)])
def wsJ2_getChar_3b067 : List Cond := .code yJ2_getChar_3b067 cJ2_getChar_3b067 2 (some .char) :: ([.fieldLink RJ2 44 "java/lang/StringUTF16" "$assertionsDisabled" "Z", .fieldLink RJ2 59 "java/lang/StringUTF16" "HI_BYTE_SHIFT" "I", .fieldLink RJ2 63 "java/lang/StringUTF16" "LO_BYTE_SHIFT" "I", .methodLink RJ2 48 yJ2_length_9d52b, .static yJ2_length_9d52b, .initialized RJ2, .code yJ2_length_9d52b cJ2_length_9d52b 1 (some .int)])
def wsJ2_charAt_3b067 : List Cond := .code yJ2_charAt_3b067 cJ2_charAt_3b067 2 (some .char) :: ([.methodLink RJ2 67 yJ2_checkIndex_2214a, .static yJ2_checkIndex_2214a, .initialized RJ2, .code yJ2_checkIndex_2214a cJ2_checkIndex_2214a 2 none, .methodLink RJ2 48 yJ2_length_9d52b, .static yJ2_length_9d52b, .code yJ2_length_9d52b cJ2_length_9d52b 1 (some .int), .methodLink RJ2 414 yJ0_checkIndex_df160, .static yJ0_checkIndex_df160, .initialized RJ0, .code yJ0_checkIndex_df160 cJ0_checkIndex_df160 2 none, .fieldLink RJ0 1053 "jdk/internal/util/Preconditions" "SIOOBE_FORMATTER" "Ljava/util/function/BiFunction;", .methodLink RJ0 1059 yJ3_checkIndex_8e157, .static yJ3_checkIndex_8e157, .initialized RJ3, .code yJ3_checkIndex_8e157 cJ3_checkIndex_8e157 3 (some .int), .methodLink RJ2 71 yJ2_getChar_3b067, .static yJ2_getChar_3b067, .code yJ2_getChar_3b067 cJ2_getChar_3b067 2 (some .char), .fieldLink RJ2 44 "java/lang/StringUTF16" "$assertionsDisabled" "Z", .fieldLink RJ2 59 "java/lang/StringUTF16" "HI_BYTE_SHIFT" "I", .fieldLink RJ2 63 "java/lang/StringUTF16" "LO_BYTE_SHIFT" "I"])
def wsJ0_charAt_5068e_r1 : List Cond := [Cond.fieldLink RJ0 9 "java/lang/String" "value" "[B", Cond.methodLink RJ0 492 yJ0_isLatin1_aae02, Cond.instanceMethod yJ0_isLatin1_aae02, Cond.selects RJ0 yJ0_isLatin1_aae02 yJ0_isLatin1_aae02, Cond.initialized RJ0, Cond.code yJ0_isLatin1_aae02 cJ0_isLatin1_aae02 1 (some .boolean), Cond.fieldLink RJ0 38 "java/lang/String" "COMPACT_STRINGS" "Z", Cond.fieldLink RJ0 15 "java/lang/String" "coder" "B", Cond.methodLink RJ0 495 yJ1_charAt_3b067, Cond.static yJ1_charAt_3b067, Cond.initialized RJ1, Cond.code yJ1_charAt_3b067 cJ1_charAt_3b067 2 (some .char), Cond.methodLink RJ1 9 yJ0_checkIndex_df160, Cond.static yJ0_checkIndex_df160, Cond.code yJ0_checkIndex_df160 cJ0_checkIndex_df160 2 none, Cond.fieldLink RJ0 1053 "jdk/internal/util/Preconditions" "SIOOBE_FORMATTER" "Ljava/util/function/BiFunction;", Cond.methodLink RJ0 1059 yJ3_checkIndex_8e157, Cond.static yJ3_checkIndex_8e157, Cond.initialized RJ3, Cond.code yJ3_checkIndex_8e157 cJ3_checkIndex_8e157 3 (some .int), Cond.methodLink RJ0 498 yJ2_charAt_3b067, Cond.static yJ2_charAt_3b067, Cond.initialized RJ2, Cond.code yJ2_charAt_3b067 cJ2_charAt_3b067 2 (some .char)]
def wsJ0_charAt_5068e_r2 : List Cond := [Cond.methodLink RJ2 67 yJ2_checkIndex_2214a, Cond.static yJ2_checkIndex_2214a, Cond.code yJ2_checkIndex_2214a cJ2_checkIndex_2214a 2 none, Cond.methodLink RJ2 48 yJ2_length_9d52b, Cond.static yJ2_length_9d52b, Cond.code yJ2_length_9d52b cJ2_length_9d52b 1 (some .int), Cond.methodLink RJ2 414 yJ0_checkIndex_df160, Cond.methodLink RJ2 71 yJ2_getChar_3b067, Cond.static yJ2_getChar_3b067, Cond.code yJ2_getChar_3b067 cJ2_getChar_3b067 2 (some .char), Cond.fieldLink RJ2 44 "java/lang/StringUTF16" "$assertionsDisabled" "Z", Cond.fieldLink RJ2 59 "java/lang/StringUTF16" "HI_BYTE_SHIFT" "I", Cond.fieldLink RJ2 63 "java/lang/StringUTF16" "LO_BYTE_SHIFT" "I"]
def wsJ0_charAt_5068e : List Cond := .code yJ0_charAt_5068e cJ0_charAt_5068e 2 (some .char) :: ((wsJ0_charAt_5068e_r1 ++ wsJ0_charAt_5068e_r2))
def wsJ9_abs_0f7a4 : List Cond := .code yJ9_abs_0f7a4 cJ9_abs_0f7a4 1 (some .int) :: ([])
def wsJ9_max_7cf53 : List Cond := .code yJ9_max_7cf53 cJ9_max_7cf53 2 (some .int) :: ([])
def wsJ9_min_7cf53 : List Cond := .code yJ9_min_7cf53 cJ9_min_7cf53 2 (some .int) :: ([])
def wsJ9_min_f86c9 : List Cond := .code yJ9_min_f86c9 cJ9_min_f86c9 4 (some .long) :: ([])
theorem inJx145de : ∀ w ∈ wsJx145de0, w ∈ lw_tbl := by decide +kernel
theorem inJx9f9b0 : ∀ w ∈ wsJx9f9b00, w ∈ lw_tbl := by decide +kernel
theorem inJxb160c : ∀ w ∈ wsJxb160c0, w ∈ lw_tbl := by decide +kernel
theorem inJ9 : ∀ w ∈ wsJ90, w ∈ lw_tbl := by decide +kernel
theorem inJ0 : ∀ w ∈ wsJ00, w ∈ lw_tbl := by decide +kernel
theorem inJ1 : ∀ w ∈ wsJ10, w ∈ lw_tbl := by decide +kernel
theorem inJ2 : ∀ w ∈ wsJ20, w ∈ lw_tbl := by decide +kernel
theorem inJxfd54e : ∀ w ∈ wsJxfd54e0, w ∈ lw_tbl := by decide +kernel
theorem inJx3cf43 : ∀ w ∈ wsJx3cf430, w ∈ lw_tbl := by decide +kernel
theorem inJ3 : ∀ w ∈ wsJ30, w ∈ lw_tbl := by decide +kernel
theorem dJ9_abs_0f7a4_0 : decode cJ9_abs_0f7a4 0 = .ok (.iload_n 0, 1) := by decide +kernel
theorem dJ9_abs_0f7a4_1 : decode cJ9_abs_0f7a4 1 = .ok (.ifCond .ge 8, 3) := by decide +kernel
theorem dJ9_abs_0f7a4_4 : decode cJ9_abs_0f7a4 4 = .ok (.iload_n 0, 1) := by decide +kernel
theorem dJ9_abs_0f7a4_5 : decode cJ9_abs_0f7a4 5 = .ok (.ineg, 1) := by decide +kernel
theorem dJ9_abs_0f7a4_6 : decode cJ9_abs_0f7a4 6 = .ok (.goto 4, 3) := by decide +kernel
theorem dJ9_abs_0f7a4_9 : decode cJ9_abs_0f7a4 9 = .ok (.iload_n 0, 1) := by decide +kernel
theorem dJ9_abs_0f7a4_10 : decode cJ9_abs_0f7a4 10 = .ok (.ireturn, 1) := by decide +kernel
theorem dJ9_max_7cf53_0 : decode cJ9_max_7cf53 0 = .ok (.iload_n 0, 1) := by decide +kernel
theorem dJ9_max_7cf53_1 : decode cJ9_max_7cf53 1 = .ok (.iload_n 1, 1) := by decide +kernel
theorem dJ9_max_7cf53_2 : decode cJ9_max_7cf53 2 = .ok (.if_icmp .lt 7, 3) := by decide +kernel
theorem dJ9_max_7cf53_5 : decode cJ9_max_7cf53 5 = .ok (.iload_n 0, 1) := by decide +kernel
theorem dJ9_max_7cf53_6 : decode cJ9_max_7cf53 6 = .ok (.goto 4, 3) := by decide +kernel
theorem dJ9_max_7cf53_9 : decode cJ9_max_7cf53 9 = .ok (.iload_n 1, 1) := by decide +kernel
theorem dJ9_max_7cf53_10 : decode cJ9_max_7cf53 10 = .ok (.ireturn, 1) := by decide +kernel
theorem dJ9_min_7cf53_0 : decode cJ9_min_7cf53 0 = .ok (.iload_n 0, 1) := by decide +kernel
theorem dJ9_min_7cf53_1 : decode cJ9_min_7cf53 1 = .ok (.iload_n 1, 1) := by decide +kernel
theorem dJ9_min_7cf53_2 : decode cJ9_min_7cf53 2 = .ok (.if_icmp .gt 7, 3) := by decide +kernel
theorem dJ9_min_7cf53_5 : decode cJ9_min_7cf53 5 = .ok (.iload_n 0, 1) := by decide +kernel
theorem dJ9_min_7cf53_6 : decode cJ9_min_7cf53 6 = .ok (.goto 4, 3) := by decide +kernel
theorem dJ9_min_7cf53_9 : decode cJ9_min_7cf53 9 = .ok (.iload_n 1, 1) := by decide +kernel
theorem dJ9_min_7cf53_10 : decode cJ9_min_7cf53 10 = .ok (.ireturn, 1) := by decide +kernel
theorem dJ9_min_f86c9_0 : decode cJ9_min_f86c9 0 = .ok (.lload_n 0, 1) := by decide +kernel
theorem dJ9_min_f86c9_1 : decode cJ9_min_f86c9 1 = .ok (.lload_n 2, 1) := by decide +kernel
theorem dJ9_min_f86c9_2 : decode cJ9_min_f86c9 2 = .ok (.lcmp, 1) := by decide +kernel
theorem dJ9_min_f86c9_3 : decode cJ9_min_f86c9 3 = .ok (.ifCond .gt 7, 3) := by decide +kernel
theorem dJ9_min_f86c9_6 : decode cJ9_min_f86c9 6 = .ok (.lload_n 0, 1) := by decide +kernel
theorem dJ9_min_f86c9_7 : decode cJ9_min_f86c9 7 = .ok (.goto 4, 3) := by decide +kernel
theorem dJ9_min_f86c9_10 : decode cJ9_min_f86c9 10 = .ok (.lload_n 2, 1) := by decide +kernel
theorem dJ9_min_f86c9_11 : decode cJ9_min_f86c9 11 = .ok (.lreturn, 1) := by decide +kernel
set_option maxRecDepth 20000 in
theorem ggJ0_length_8abf5_J0_coder_7d493 : GoodIn wsJ0_length_8abf5 wsJ0_coder_7d493 := goodIn_r _ [6, 7, 8] (by decide +kernel) (by decide +kernel)
set_option maxRecDepth 20000 in
theorem gJ0_length_8abf5_J0_coder_7d493 : GoodIn wsJ0_length_8abf5 (wsV RJ0 335 RJ0 yJ0_coder_7d493 wsJ0_coder_7d493) := goodIn_app (goodIn_of _ (by decide +kernel)) ggJ0_length_8abf5_J0_coder_7d493
theorem dJ0_length_8abf5_0 : decode cJ0_length_8abf5 0 = .ok (.aload_n 0, 1) := by decide +kernel
theorem dJ0_length_8abf5_1 : decode cJ0_length_8abf5 1 = .ok (.getfield 9, 3) := by decide +kernel
theorem dJ0_length_8abf5_4 : decode cJ0_length_8abf5 4 = .ok (.arraylength, 1) := by decide +kernel
theorem dJ0_length_8abf5_5 : decode cJ0_length_8abf5 5 = .ok (.aload_n 0, 1) := by decide +kernel
theorem dJ0_length_8abf5_6 : decode cJ0_length_8abf5 6 = .ok (.invokevirtual 335, 3) := by decide +kernel
theorem dJ0_length_8abf5_9 : decode cJ0_length_8abf5 9 = .ok (.ishr, 1) := by decide +kernel
theorem dJ0_length_8abf5_10 : decode cJ0_length_8abf5 10 = .ok (.ireturn, 1) := by decide +kernel
set_option maxRecDepth 20000 in
theorem ggJ0_charAt_5068e_J0_isLatin1_aae02 : GoodIn wsJ0_charAt_5068e wsJ0_isLatin1_aae02 := goodIn_r _ [6, 7, 8] (by decide +kernel) (by decide +kernel)
set_option maxRecDepth 20000 in
theorem gJ0_charAt_5068e_J0_isLatin1_aae02 : GoodIn wsJ0_charAt_5068e (wsV RJ0 492 RJ0 yJ0_isLatin1_aae02 wsJ0_isLatin1_aae02) := goodIn_app (goodIn_of _ (by decide +kernel)) ggJ0_charAt_5068e_J0_isLatin1_aae02
set_option maxRecDepth 20000 in
theorem ggJ0_charAt_5068e_J1_charAt_3b067 : GoodIn wsJ0_charAt_5068e wsJ1_charAt_3b067 := goodIn_r _ [12, 13, 14, 5, 15, 16, 17, 18, 19, 20] (by decide +kernel) (by decide +kernel)
set_option maxRecDepth 20000 in
theorem gJ0_charAt_5068e_J1_charAt_3b067 : GoodIn wsJ0_charAt_5068e (va_wsS RJ0 495 yJ1_charAt_3b067 wsJ1_charAt_3b067) := goodIn_app (goodIn_of _ (by decide +kernel)) ggJ0_charAt_5068e_J1_charAt_3b067
set_option maxRecDepth 20000 in
theorem ggJ0_charAt_5068e_J2_charAt_3b067 : GoodIn wsJ0_charAt_5068e wsJ2_charAt_3b067 := goodIn_r _ [24, 25, 26, 23, 27, 28, 29, 30, 31, 14, 5, 15, 16, 17, 18, 19, 20, 32, 33, 34, 35, 36, 37] (by decide +kernel) (by decide +kernel)
set_option maxRecDepth 20000 in
theorem gJ0_charAt_5068e_J2_charAt_3b067 : GoodIn wsJ0_charAt_5068e (va_wsS RJ0 498 yJ2_charAt_3b067 wsJ2_charAt_3b067) := goodIn_app (goodIn_of _ (by decide +kernel)) ggJ0_charAt_5068e_J2_charAt_3b067
theorem dJ0_charAt_5068e_0 : decode cJ0_charAt_5068e 0 = .ok (.aload_n 0, 1) := by decide +kernel
theorem dJ0_charAt_5068e_1 : decode cJ0_charAt_5068e 1 = .ok (.invokevirtual 492, 3) := by decide +kernel
theorem dJ0_charAt_5068e_4 : decode cJ0_charAt_5068e 4 = .ok (.ifCond .eq 12, 3) := by decide +kernel
theorem dJ0_charAt_5068e_7 : decode cJ0_charAt_5068e 7 = .ok (.aload_n 0, 1) := by decide +kernel
theorem dJ0_charAt_5068e_8 : decode cJ0_charAt_5068e 8 = .ok (.getfield 9, 3) := by decide +kernel
theorem dJ0_charAt_5068e_11 : decode cJ0_charAt_5068e 11 = .ok (.iload_n 1, 1) := by decide +kernel
theorem dJ0_charAt_5068e_12 : decode cJ0_charAt_5068e 12 = .ok (.invokestatic 495, 3) := by decide +kernel
theorem dJ0_charAt_5068e_15 : decode cJ0_charAt_5068e 15 = .ok (.ireturn, 1) := by decide +kernel
theorem dJ0_charAt_5068e_16 : decode cJ0_charAt_5068e 16 = .ok (.aload_n 0, 1) := by decide +kernel
theorem dJ0_charAt_5068e_17 : decode cJ0_charAt_5068e 17 = .ok (.getfield 9, 3) := by decide +kernel
theorem dJ0_charAt_5068e_20 : decode cJ0_charAt_5068e 20 = .ok (.iload_n 1, 1) := by decide +kernel
theorem dJ0_charAt_5068e_21 : decode cJ0_charAt_5068e 21 = .ok (.invokestatic 498, 3) := by decide +kernel
theorem dJ0_charAt_5068e_24 : decode cJ0_charAt_5068e 24 = .ok (.ireturn, 1) := by decide +kernel
theorem dJ0_coder_7d493_0 : decode cJ0_coder_7d493 0 = .ok (.getstatic 38, 3) := by decide +kernel
theorem dJ0_coder_7d493_3 : decode cJ0_coder_7d493 3 = .ok (.ifCond .eq 10, 3) := by decide +kernel
theorem dJ0_coder_7d493_6 : decode cJ0_coder_7d493 6 = .ok (.aload_n 0, 1) := by decide +kernel
theorem dJ0_coder_7d493_7 : decode cJ0_coder_7d493 7 = .ok (.getfield 15, 3) := by decide +kernel
theorem dJ0_coder_7d493_10 : decode cJ0_coder_7d493 10 = .ok (.goto 4, 3) := by decide +kernel
theorem dJ0_coder_7d493_13 : decode cJ0_coder_7d493 13 = .ok (.iconst 1, 1) := by decide +kernel
theorem dJ0_coder_7d493_14 : decode cJ0_coder_7d493 14 = .ok (.ireturn, 1) := by decide +kernel
theorem dJ0_isLatin1_aae02_0 : decode cJ0_isLatin1_aae02 0 = .ok (.getstatic 38, 3) := by decide +kernel
theorem dJ0_isLatin1_aae02_3 : decode cJ0_isLatin1_aae02 3 = .ok (.ifCond .eq 14, 3) := by decide +kernel
theorem dJ0_isLatin1_aae02_6 : decode cJ0_isLatin1_aae02 6 = .ok (.aload_n 0, 1) := by decide +kernel
theorem dJ0_isLatin1_aae02_7 : decode cJ0_isLatin1_aae02 7 = .ok (.getfield 15, 3) := by decide +kernel
theorem dJ0_isLatin1_aae02_10 : decode cJ0_isLatin1_aae02 10 = .ok (.ifCond .ne 7, 3) := by decide +kernel
theorem dJ0_isLatin1_aae02_13 : decode cJ0_isLatin1_aae02 13 = .ok (.iconst 1, 1) := by decide +kernel
theorem dJ0_isLatin1_aae02_14 : decode cJ0_isLatin1_aae02 14 = .ok (.goto 4, 3) := by decide +kernel
theorem dJ0_isLatin1_aae02_17 : decode cJ0_isLatin1_aae02 17 = .ok (.iconst 0, 1) := by decide +kernel
theorem dJ0_isLatin1_aae02_18 : decode cJ0_isLatin1_aae02 18 = .ok (.ireturn, 1) := by decide +kernel
set_option maxRecDepth 20000 in
theorem ggJ0_checkIndex_df160_J3_checkIndex_8e157 : GoodIn wsJ0_checkIndex_df160 wsJ3_checkIndex_8e157 := goodIn_r _ [5] (by decide +kernel) (by decide +kernel)
set_option maxRecDepth 20000 in
theorem gJ0_checkIndex_df160_J3_checkIndex_8e157 : GoodIn wsJ0_checkIndex_df160 (va_wsS RJ0 1059 yJ3_checkIndex_8e157 wsJ3_checkIndex_8e157) := goodIn_app (goodIn_of _ (by decide +kernel)) ggJ0_checkIndex_df160_J3_checkIndex_8e157
theorem dJ0_checkIndex_df160_0 : decode cJ0_checkIndex_df160 0 = .ok (.iload_n 0, 1) := by decide +kernel
theorem dJ0_checkIndex_df160_1 : decode cJ0_checkIndex_df160 1 = .ok (.iload_n 1, 1) := by decide +kernel
theorem dJ0_checkIndex_df160_2 : decode cJ0_checkIndex_df160 2 = .ok (.getstatic 1053, 3) := by decide +kernel
theorem dJ0_checkIndex_df160_5 : decode cJ0_checkIndex_df160 5 = .ok (.invokestatic 1059, 3) := by decide +kernel
theorem dJ0_checkIndex_df160_8 : decode cJ0_checkIndex_df160 8 = .ok (.pop, 1) := by decide +kernel
theorem dJ0_checkIndex_df160_9 : decode cJ0_checkIndex_df160 9 = .ok (.return_, 1) := by decide +kernel
set_option maxRecDepth 20000 in
theorem ggJ1_charAt_3b067_J0_checkIndex_df160 : GoodIn wsJ1_charAt_3b067 wsJ0_checkIndex_df160 := goodIn_r _ [4, 5, 6, 7, 8, 9] (by decide +kernel) (by decide +kernel)
set_option maxRecDepth 20000 in
theorem gJ1_charAt_3b067_J0_checkIndex_df160 : GoodIn wsJ1_charAt_3b067 (va_wsS RJ1 9 yJ0_checkIndex_df160 wsJ0_checkIndex_df160) := goodIn_app (goodIn_of _ (by decide +kernel)) ggJ1_charAt_3b067_J0_checkIndex_df160
theorem dJ1_charAt_3b067_0 : decode cJ1_charAt_3b067 0 = .ok (.iload_n 1, 1) := by decide +kernel
theorem dJ1_charAt_3b067_1 : decode cJ1_charAt_3b067 1 = .ok (.aload_n 0, 1) := by decide +kernel
theorem dJ1_charAt_3b067_2 : decode cJ1_charAt_3b067 2 = .ok (.arraylength, 1) := by decide +kernel
theorem dJ1_charAt_3b067_3 : decode cJ1_charAt_3b067 3 = .ok (.invokestatic 9, 3) := by decide +kernel
theorem dJ1_charAt_3b067_6 : decode cJ1_charAt_3b067 6 = .ok (.aload_n 0, 1) := by decide +kernel
theorem dJ1_charAt_3b067_7 : decode cJ1_charAt_3b067 7 = .ok (.iload_n 1, 1) := by decide +kernel
theorem dJ1_charAt_3b067_8 : decode cJ1_charAt_3b067 8 = .ok (.baload, 1) := by decide +kernel
theorem dJ1_charAt_3b067_9 : decode cJ1_charAt_3b067 9 = .ok (.sipush 255, 3) := by decide +kernel
theorem dJ1_charAt_3b067_12 : decode cJ1_charAt_3b067 12 = .ok (.iand, 1) := by decide +kernel
theorem dJ1_charAt_3b067_13 : decode cJ1_charAt_3b067 13 = .ok (.i2c, 1) := by decide +kernel
theorem dJ1_charAt_3b067_14 : decode cJ1_charAt_3b067 14 = .ok (.ireturn, 1) := by decide +kernel
set_option maxRecDepth 20000 in
theorem ggJ2_getChar_3b067_J2_length_9d52b : GoodIn wsJ2_getChar_3b067 wsJ2_length_9d52b := goodIn_r _ [7] (by decide +kernel) (by decide +kernel)
set_option maxRecDepth 20000 in
theorem gJ2_getChar_3b067_J2_length_9d52b : GoodIn wsJ2_getChar_3b067 (va_wsS RJ2 48 yJ2_length_9d52b wsJ2_length_9d52b) := goodIn_app (goodIn_of _ (by decide +kernel)) ggJ2_getChar_3b067_J2_length_9d52b
theorem dJ2_getChar_3b067_0 : decode cJ2_getChar_3b067 0 = .ok (.getstatic 44, 3) := by decide +kernel
theorem dJ2_getChar_3b067_3 : decode cJ2_getChar_3b067 3 = .ok (.ifCond .ne 25, 3) := by decide +kernel
theorem dJ2_getChar_3b067_6 : decode cJ2_getChar_3b067 6 = .ok (.iload_n 1, 1) := by decide +kernel
theorem dJ2_getChar_3b067_7 : decode cJ2_getChar_3b067 7 = .ok (.ifCond .lt 11, 3) := by decide +kernel
theorem dJ2_getChar_3b067_10 : decode cJ2_getChar_3b067 10 = .ok (.iload_n 1, 1) := by decide +kernel
theorem dJ2_getChar_3b067_11 : decode cJ2_getChar_3b067 11 = .ok (.aload_n 0, 1) := by decide +kernel
theorem dJ2_getChar_3b067_12 : decode cJ2_getChar_3b067 12 = .ok (.invokestatic 48, 3) := by decide +kernel
theorem dJ2_getChar_3b067_15 : decode cJ2_getChar_3b067 15 = .ok (.if_icmp .lt 13, 3) := by decide +kernel
theorem dJ2_getChar_3b067_18 : decode cJ2_getChar_3b067 18 = .ok (.new 52, 3) := by decide +kernel
theorem dJ2_getChar_3b067_21 : decode cJ2_getChar_3b067 21 = .ok (.dup, 1) := by decide +kernel
theorem dJ2_getChar_3b067_22 : decode cJ2_getChar_3b067 22 = .ok (.ldc 54, 2) := by decide +kernel
theorem dJ2_getChar_3b067_24 : decode cJ2_getChar_3b067 24 = .ok (.invokespecial 56, 3) := by decide +kernel
theorem dJ2_getChar_3b067_27 : decode cJ2_getChar_3b067 27 = .ok (.athrow, 1) := by decide +kernel
theorem dJ2_getChar_3b067_28 : decode cJ2_getChar_3b067 28 = .ok (.iload_n 1, 1) := by decide +kernel
theorem dJ2_getChar_3b067_29 : decode cJ2_getChar_3b067 29 = .ok (.iconst 1, 1) := by decide +kernel
theorem dJ2_getChar_3b067_30 : decode cJ2_getChar_3b067 30 = .ok (.ishl, 1) := by decide +kernel
theorem dJ2_getChar_3b067_31 : decode cJ2_getChar_3b067 31 = .ok (.istore_n 1, 1) := by decide +kernel
theorem dJ2_getChar_3b067_32 : decode cJ2_getChar_3b067 32 = .ok (.aload_n 0, 1) := by decide +kernel
theorem dJ2_getChar_3b067_33 : decode cJ2_getChar_3b067 33 = .ok (.iload_n 1, 1) := by decide +kernel
theorem dJ2_getChar_3b067_34 : decode cJ2_getChar_3b067 34 = .ok (.iinc 1 1, 3) := by decide +kernel
theorem dJ2_getChar_3b067_37 : decode cJ2_getChar_3b067 37 = .ok (.baload, 1) := by decide +kernel
theorem dJ2_getChar_3b067_38 : decode cJ2_getChar_3b067 38 = .ok (.sipush 255, 3) := by decide +kernel
theorem dJ2_getChar_3b067_41 : decode cJ2_getChar_3b067 41 = .ok (.iand, 1) := by decide +kernel
theorem dJ2_getChar_3b067_42 : decode cJ2_getChar_3b067 42 = .ok (.getstatic 59, 3) := by decide +kernel
theorem dJ2_getChar_3b067_45 : decode cJ2_getChar_3b067 45 = .ok (.ishl, 1) := by decide +kernel
theorem dJ2_getChar_3b067_46 : decode cJ2_getChar_3b067 46 = .ok (.aload_n 0, 1) := by decide +kernel
theorem dJ2_getChar_3b067_47 : decode cJ2_getChar_3b067 47 = .ok (.iload_n 1, 1) := by decide +kernel
theorem dJ2_getChar_3b067_48 : decode cJ2_getChar_3b067 48 = .ok (.baload, 1) := by decide +kernel
theorem dJ2_getChar_3b067_49 : decode cJ2_getChar_3b067 49 = .ok (.sipush 255, 3) := by decide +kernel
theorem dJ2_getChar_3b067_52 : decode cJ2_getChar_3b067 52 = .ok (.iand, 1) := by decide +kernel
theorem dJ2_getChar_3b067_53 : decode cJ2_getChar_3b067 53 = .ok (.getstatic 63, 3) := by decide +kernel
theorem dJ2_getChar_3b067_56 : decode cJ2_getChar_3b067 56 = .ok (.ishl, 1) := by decide +kernel
theorem dJ2_getChar_3b067_57 : decode cJ2_getChar_3b067 57 = .ok (.ior, 1) := by decide +kernel
theorem dJ2_getChar_3b067_58 : decode cJ2_getChar_3b067 58 = .ok (.i2c, 1) := by decide +kernel
theorem dJ2_getChar_3b067_59 : decode cJ2_getChar_3b067 59 = .ok (.ireturn, 1) := by decide +kernel
theorem dJ2_length_9d52b_0 : decode cJ2_length_9d52b 0 = .ok (.aload_n 0, 1) := by decide +kernel
theorem dJ2_length_9d52b_1 : decode cJ2_length_9d52b 1 = .ok (.arraylength, 1) := by decide +kernel
theorem dJ2_length_9d52b_2 : decode cJ2_length_9d52b 2 = .ok (.iconst 1, 1) := by decide +kernel
theorem dJ2_length_9d52b_3 : decode cJ2_length_9d52b 3 = .ok (.ishr, 1) := by decide +kernel
theorem dJ2_length_9d52b_4 : decode cJ2_length_9d52b 4 = .ok (.ireturn, 1) := by decide +kernel
set_option maxRecDepth 20000 in
theorem ggJ2_charAt_3b067_J2_checkIndex_2214a : GoodIn wsJ2_charAt_3b067 wsJ2_checkIndex_2214a := goodIn_r _ [4, 5, 6, 3, 7, 8, 9, 10, 11, 12, 13, 14, 15, 16] (by decide +kernel) (by decide +kernel)
set_option maxRecDepth 20000 in
theorem gJ2_charAt_3b067_J2_checkIndex_2214a : GoodIn wsJ2_charAt_3b067 (va_wsS RJ2 67 yJ2_checkIndex_2214a wsJ2_checkIndex_2214a) := goodIn_app (goodIn_of _ (by decide +kernel)) ggJ2_charAt_3b067_J2_checkIndex_2214a
set_option maxRecDepth 20000 in
theorem ggJ2_charAt_3b067_J2_getChar_3b067 : GoodIn wsJ2_charAt_3b067 wsJ2_getChar_3b067 := goodIn_r _ [19, 20, 21, 22, 5, 6, 3, 7] (by decide +kernel) (by decide +kernel)
set_option maxRecDepth 20000 in
theorem gJ2_charAt_3b067_J2_getChar_3b067 : GoodIn wsJ2_charAt_3b067 (va_wsS RJ2 71 yJ2_getChar_3b067 wsJ2_getChar_3b067) := goodIn_app (goodIn_of _ (by decide +kernel)) ggJ2_charAt_3b067_J2_getChar_3b067
theorem dJ2_charAt_3b067_0 : decode cJ2_charAt_3b067 0 = .ok (.iload_n 1, 1) := by decide +kernel
theorem dJ2_charAt_3b067_1 : decode cJ2_charAt_3b067 1 = .ok (.aload_n 0, 1) := by decide +kernel
theorem dJ2_charAt_3b067_2 : decode cJ2_charAt_3b067 2 = .ok (.invokestatic 67, 3) := by decide +kernel
theorem dJ2_charAt_3b067_5 : decode cJ2_charAt_3b067 5 = .ok (.aload_n 0, 1) := by decide +kernel
theorem dJ2_charAt_3b067_6 : decode cJ2_charAt_3b067 6 = .ok (.iload_n 1, 1) := by decide +kernel
theorem dJ2_charAt_3b067_7 : decode cJ2_charAt_3b067 7 = .ok (.invokestatic 71, 3) := by decide +kernel
theorem dJ2_charAt_3b067_10 : decode cJ2_charAt_3b067 10 = .ok (.ireturn, 1) := by decide +kernel
set_option maxRecDepth 20000 in
theorem ggJ2_checkIndex_2214a_J2_length_9d52b : GoodIn wsJ2_checkIndex_2214a wsJ2_length_9d52b := goodIn_r _ [4] (by decide +kernel) (by decide +kernel)
set_option maxRecDepth 20000 in
theorem gJ2_checkIndex_2214a_J2_length_9d52b : GoodIn wsJ2_checkIndex_2214a (va_wsS RJ2 48 yJ2_length_9d52b wsJ2_length_9d52b) := goodIn_app (goodIn_of _ (by decide +kernel)) ggJ2_checkIndex_2214a_J2_length_9d52b
set_option maxRecDepth 20000 in
theorem ggJ2_checkIndex_2214a_J0_checkIndex_df160 : GoodIn wsJ2_checkIndex_2214a wsJ0_checkIndex_df160 := goodIn_r _ [8, 9, 10, 11, 12, 13] (by decide +kernel) (by decide +kernel)
set_option maxRecDepth 20000 in
theorem gJ2_checkIndex_2214a_J0_checkIndex_df160 : GoodIn wsJ2_checkIndex_2214a (va_wsS RJ2 414 yJ0_checkIndex_df160 wsJ0_checkIndex_df160) := goodIn_app (goodIn_of _ (by decide +kernel)) ggJ2_checkIndex_2214a_J0_checkIndex_df160
theorem dJ2_checkIndex_2214a_0 : decode cJ2_checkIndex_2214a 0 = .ok (.iload_n 0, 1) := by decide +kernel
theorem dJ2_checkIndex_2214a_1 : decode cJ2_checkIndex_2214a 1 = .ok (.aload_n 1, 1) := by decide +kernel
theorem dJ2_checkIndex_2214a_2 : decode cJ2_checkIndex_2214a 2 = .ok (.invokestatic 48, 3) := by decide +kernel
theorem dJ2_checkIndex_2214a_5 : decode cJ2_checkIndex_2214a 5 = .ok (.invokestatic 414, 3) := by decide +kernel
theorem dJ2_checkIndex_2214a_8 : decode cJ2_checkIndex_2214a 8 = .ok (.return_, 1) := by decide +kernel
theorem dJ3_checkIndex_8e157_0 : decode cJ3_checkIndex_8e157 0 = .ok (.iload_n 0, 1) := by decide +kernel
theorem dJ3_checkIndex_8e157_1 : decode cJ3_checkIndex_8e157 1 = .ok (.ifCond .lt 8, 3) := by decide +kernel
theorem dJ3_checkIndex_8e157_4 : decode cJ3_checkIndex_8e157 4 = .ok (.iload_n 0, 1) := by decide +kernel
theorem dJ3_checkIndex_8e157_5 : decode cJ3_checkIndex_8e157 5 = .ok (.iload_n 1, 1) := by decide +kernel
theorem dJ3_checkIndex_8e157_6 : decode cJ3_checkIndex_8e157 6 = .ok (.if_icmp .lt 10, 3) := by decide +kernel
theorem dJ3_checkIndex_8e157_9 : decode cJ3_checkIndex_8e157 9 = .ok (.aload_n 2, 1) := by decide +kernel
theorem dJ3_checkIndex_8e157_10 : decode cJ3_checkIndex_8e157 10 = .ok (.iload_n 0, 1) := by decide +kernel
theorem dJ3_checkIndex_8e157_11 : decode cJ3_checkIndex_8e157 11 = .ok (.iload_n 1, 1) := by decide +kernel
theorem dJ3_checkIndex_8e157_12 : decode cJ3_checkIndex_8e157 12 = .ok (.invokestatic 95, 3) := by decide +kernel
theorem dJ3_checkIndex_8e157_15 : decode cJ3_checkIndex_8e157 15 = .ok (.athrow, 1) := by decide +kernel
theorem dJ3_checkIndex_8e157_16 : decode cJ3_checkIndex_8e157 16 = .ok (.iload_n 0, 1) := by decide +kernel
theorem dJ3_checkIndex_8e157_17 : decode cJ3_checkIndex_8e157 17 = .ok (.ireturn, 1) := by decide +kernel
abbrev vwCl : List vw_C := [(RX0, TX0, 5), (RX1, TX1, 9), (RX2, TX2, 8), (RX3, TX3, 7), (RX4, TX4, 6), (RX5, TX5, 2), (RX6, TX6, 6), (RX7, TX7, 6), (RX8, TX8, 4), (RX9, TX9, 17)]
end
section
theorem dX0_init_0 : decode cX0_init 0 = .ok (.aload_n 0, 1) := by decide +kernel
theorem dX0_init_1 : decode cX0_init 1 = .ok (.invokespecial 3, 3) := by decide +kernel
theorem dX0_init_4 : decode cX0_init 4 = .ok (.aload_n 0, 1) := by decide +kernel
theorem dX0_init_5 : decode cX0_init 5 = .ok (.bipush 6, 2) := by decide +kernel
theorem dX0_init_7 : decode cX0_init 7 = .ok (.anewarray 9, 3) := by decide +kernel
theorem dX0_init_10 : decode cX0_init 10 = .ok (.putfield 11, 3) := by decide +kernel
theorem dX0_init_13 : decode cX0_init 13 = .ok (.iconst 0, 1) := by decide +kernel
theorem dX0_init_14 : decode cX0_init 14 = .ok (.istore_n 1, 1) := by decide +kernel
theorem dX0_init_15 : decode cX0_init 15 = .ok (.iload_n 1, 1) := by decide +kernel
theorem dX0_init_16 : decode cX0_init 16 = .ok (.bipush 6, 2) := by decide +kernel
theorem dX0_init_18 : decode cX0_init 18 = .ok (.if_icmp .ge 22, 3) := by decide +kernel
theorem dX0_init_21 : decode cX0_init 21 = .ok (.aload_n 0, 1) := by decide +kernel
theorem dX0_init_22 : decode cX0_init 22 = .ok (.getfield 11, 3) := by decide +kernel
theorem dX0_init_25 : decode cX0_init 25 = .ok (.iload_n 1, 1) := by decide +kernel
theorem dX0_init_26 : decode cX0_init 26 = .ok (.new 9, 3) := by decide +kernel
theorem dX0_init_29 : decode cX0_init 29 = .ok (.dup, 1) := by decide +kernel
theorem dX0_init_30 : decode cX0_init 30 = .ok (.invokespecial 17, 3) := by decide +kernel
theorem dX0_init_33 : decode cX0_init 33 = .ok (.aastore, 1) := by decide +kernel
theorem dX0_init_34 : decode cX0_init 34 = .ok (.iinc 1 1, 3) := by decide +kernel
theorem dX0_init_37 : decode cX0_init 37 = .ok (.goto (-22), 3) := by decide +kernel
theorem dX0_init_40 : decode cX0_init 40 = .ok (.aload_n 0, 1) := by decide +kernel
theorem dX0_init_41 : decode cX0_init 41 = .ok (.bipush 6, 2) := by decide +kernel
theorem dX0_init_43 : decode cX0_init 43 = .ok (.anewarray 18, 3) := by decide +kernel
theorem dX0_init_46 : decode cX0_init 46 = .ok (.putfield 20, 3) := by decide +kernel
theorem dX0_init_49 : decode cX0_init 49 = .ok (.iconst 0, 1) := by decide +kernel
theorem dX0_init_50 : decode cX0_init 50 = .ok (.istore_n 1, 1) := by decide +kernel
theorem dX0_init_51 : decode cX0_init 51 = .ok (.iload_n 1, 1) := by decide +kernel
theorem dX0_init_52 : decode cX0_init 52 = .ok (.bipush 6, 2) := by decide +kernel
theorem dX0_init_54 : decode cX0_init 54 = .ok (.if_icmp .ge 22, 3) := by decide +kernel
theorem dX0_init_57 : decode cX0_init 57 = .ok (.aload_n 0, 1) := by decide +kernel
theorem dX0_init_58 : decode cX0_init 58 = .ok (.getfield 20, 3) := by decide +kernel
theorem dX0_init_61 : decode cX0_init 61 = .ok (.iload_n 1, 1) := by decide +kernel
theorem dX0_init_62 : decode cX0_init 62 = .ok (.new 18, 3) := by decide +kernel
theorem dX0_init_65 : decode cX0_init 65 = .ok (.dup, 1) := by decide +kernel
theorem dX0_init_66 : decode cX0_init 66 = .ok (.invokespecial 24, 3) := by decide +kernel
theorem dX0_init_69 : decode cX0_init 69 = .ok (.aastore, 1) := by decide +kernel
theorem dX0_init_70 : decode cX0_init 70 = .ok (.iinc 1 1, 3) := by decide +kernel
theorem dX0_init_73 : decode cX0_init 73 = .ok (.goto (-22), 3) := by decide +kernel
theorem dX0_init_76 : decode cX0_init 76 = .ok (.return_, 1) := by decide +kernel
theorem dX0_forget_0 : decode cX0_forget 0 = .ok (.aload_n 0, 1) := by decide +kernel
theorem dX0_forget_1 : decode cX0_forget 1 = .ok (.iconst 0, 1) := by decide +kernel
theorem dX0_forget_2 : decode cX0_forget 2 = .ok (.putfield 25, 3) := by decide +kernel
theorem dX0_forget_5 : decode cX0_forget 5 = .ok (.aload_n 0, 1) := by decide +kernel
theorem dX0_forget_6 : decode cX0_forget 6 = .ok (.iconst 0, 1) := by decide +kernel
theorem dX0_forget_7 : decode cX0_forget 7 = .ok (.putfield 29, 3) := by decide +kernel
theorem dX0_forget_10 : decode cX0_forget 10 = .ok (.aload_n 0, 1) := by decide +kernel
theorem dX0_forget_11 : decode cX0_forget 11 = .ok (.iconst 0, 1) := by decide +kernel
theorem dX0_forget_12 : decode cX0_forget 12 = .ok (.putfield 32, 3) := by decide +kernel
theorem dX0_forget_15 : decode cX0_forget 15 = .ok (.return_, 1) := by decide +kernel
theorem dX0_addIndex_0 : decode cX0_addIndex 0 = .ok (.aload_n 0, 1) := by decide +kernel
theorem dX0_addIndex_1 : decode cX0_addIndex 1 = .ok (.getfield 29, 3) := by decide +kernel
theorem dX0_addIndex_4 : decode cX0_addIndex 4 = .ok (.ifCond .lt 12, 3) := by decide +kernel
theorem dX0_addIndex_7 : decode cX0_addIndex 7 = .ok (.aload_n 0, 1) := by decide +kernel
theorem dX0_addIndex_8 : decode cX0_addIndex 8 = .ok (.getfield 29, 3) := by decide +kernel
theorem dX0_addIndex_11 : decode cX0_addIndex 11 = .ok (.bipush 6, 2) := by decide +kernel
theorem dX0_addIndex_13 : decode cX0_addIndex 13 = .ok (.if_icmp .lt 5, 3) := by decide +kernel
theorem dX0_addIndex_16 : decode cX0_addIndex 16 = .ok (.aconst_null, 1) := by decide +kernel
theorem dX0_addIndex_17 : decode cX0_addIndex 17 = .ok (.areturn, 1) := by decide +kernel
theorem dX0_addIndex_18 : decode cX0_addIndex 18 = .ok (.aload_n 0, 1) := by decide +kernel
theorem dX0_addIndex_19 : decode cX0_addIndex 19 = .ok (.getfield 11, 3) := by decide +kernel
theorem dX0_addIndex_22 : decode cX0_addIndex 22 = .ok (.aload_n 0, 1) := by decide +kernel
theorem dX0_addIndex_23 : decode cX0_addIndex 23 = .ok (.getfield 29, 3) := by decide +kernel
theorem dX0_addIndex_26 : decode cX0_addIndex 26 = .ok (.aaload, 1) := by decide +kernel
theorem dX0_addIndex_27 : decode cX0_addIndex 27 = .ok (.astore_n 1, 1) := by decide +kernel
theorem dX0_addIndex_28 : decode cX0_addIndex 28 = .ok (.aload_n 1, 1) := by decide +kernel
theorem dX0_addIndex_29 : decode cX0_addIndex 29 = .ok (.invokevirtual 35, 3) := by decide +kernel
theorem dX0_addIndex_32 : decode cX0_addIndex 32 = .ok (.aload_n 0, 1) := by decide +kernel
theorem dX0_addIndex_33 : decode cX0_addIndex 33 = .ok (.dup, 1) := by decide +kernel
theorem dX0_addIndex_34 : decode cX0_addIndex 34 = .ok (.getfield 29, 3) := by decide +kernel
theorem dX0_addIndex_37 : decode cX0_addIndex 37 = .ok (.iconst 1, 1) := by decide +kernel
theorem dX0_addIndex_38 : decode cX0_addIndex 38 = .ok (.iadd, 1) := by decide +kernel
theorem dX0_addIndex_39 : decode cX0_addIndex 39 = .ok (.putfield 29, 3) := by decide +kernel
theorem dX0_addIndex_42 : decode cX0_addIndex 42 = .ok (.aload_n 1, 1) := by decide +kernel
theorem dX0_addIndex_43 : decode cX0_addIndex 43 = .ok (.areturn, 1) := by decide +kernel
theorem dX0_addContract_0 : decode cX0_addContract 0 = .ok (.aload_n 0, 1) := by decide +kernel
theorem dX0_addContract_1 : decode cX0_addContract 1 = .ok (.getfield 32, 3) := by decide +kernel
theorem dX0_addContract_4 : decode cX0_addContract 4 = .ok (.ifCond .lt 12, 3) := by decide +kernel
theorem dX0_addContract_7 : decode cX0_addContract 7 = .ok (.aload_n 0, 1) := by decide +kernel
theorem dX0_addContract_8 : decode cX0_addContract 8 = .ok (.getfield 32, 3) := by decide +kernel
theorem dX0_addContract_11 : decode cX0_addContract 11 = .ok (.bipush 6, 2) := by decide +kernel
theorem dX0_addContract_13 : decode cX0_addContract 13 = .ok (.if_icmp .lt 5, 3) := by decide +kernel
theorem dX0_addContract_16 : decode cX0_addContract 16 = .ok (.aconst_null, 1) := by decide +kernel
theorem dX0_addContract_17 : decode cX0_addContract 17 = .ok (.areturn, 1) := by decide +kernel
theorem dX0_addContract_18 : decode cX0_addContract 18 = .ok (.aload_n 0, 1) := by decide +kernel
theorem dX0_addContract_19 : decode cX0_addContract 19 = .ok (.getfield 20, 3) := by decide +kernel
theorem dX0_addContract_22 : decode cX0_addContract 22 = .ok (.aload_n 0, 1) := by decide +kernel
theorem dX0_addContract_23 : decode cX0_addContract 23 = .ok (.getfield 32, 3) := by decide +kernel
theorem dX0_addContract_26 : decode cX0_addContract 26 = .ok (.aaload, 1) := by decide +kernel
theorem dX0_addContract_27 : decode cX0_addContract 27 = .ok (.astore_n 1, 1) := by decide +kernel
theorem dX0_addContract_28 : decode cX0_addContract 28 = .ok (.aload_n 1, 1) := by decide +kernel
theorem dX0_addContract_29 : decode cX0_addContract 29 = .ok (.iconst 0, 1) := by decide +kernel
theorem dX0_addContract_30 : decode cX0_addContract 30 = .ok (.putfield 38, 3) := by decide +kernel
theorem dX0_addContract_33 : decode cX0_addContract 33 = .ok (.aload_n 0, 1) := by decide +kernel
theorem dX0_addContract_34 : decode cX0_addContract 34 = .ok (.dup, 1) := by decide +kernel
theorem dX0_addContract_35 : decode cX0_addContract 35 = .ok (.getfield 32, 3) := by decide +kernel
theorem dX0_addContract_38 : decode cX0_addContract 38 = .ok (.iconst 1, 1) := by decide +kernel
theorem dX0_addContract_39 : decode cX0_addContract 39 = .ok (.iadd, 1) := by decide +kernel
theorem dX0_addContract_40 : decode cX0_addContract 40 = .ok (.putfield 32, 3) := by decide +kernel
theorem dX0_addContract_43 : decode cX0_addContract 43 = .ok (.aload_n 1, 1) := by decide +kernel
theorem dX0_addContract_44 : decode cX0_addContract 44 = .ok (.areturn, 1) := by decide +kernel
theorem dX0_indexAt_0 : decode cX0_indexAt 0 = .ok (.iload_n 1, 1) := by decide +kernel
theorem dX0_indexAt_1 : decode cX0_indexAt 1 = .ok (.ifCond .lt 26, 3) := by decide +kernel
theorem dX0_indexAt_4 : decode cX0_indexAt 4 = .ok (.iload_n 1, 1) := by decide +kernel
theorem dX0_indexAt_5 : decode cX0_indexAt 5 = .ok (.aload_n 0, 1) := by decide +kernel
theorem dX0_indexAt_6 : decode cX0_indexAt 6 = .ok (.getfield 29, 3) := by decide +kernel
theorem dX0_indexAt_9 : decode cX0_indexAt 9 = .ok (.if_icmp .ge 18, 3) := by decide +kernel
theorem dX0_indexAt_12 : decode cX0_indexAt 12 = .ok (.iload_n 1, 1) := by decide +kernel
theorem dX0_indexAt_13 : decode cX0_indexAt 13 = .ok (.bipush 6, 2) := by decide +kernel
theorem dX0_indexAt_15 : decode cX0_indexAt 15 = .ok (.if_icmp .ge 12, 3) := by decide +kernel
theorem dX0_indexAt_18 : decode cX0_indexAt 18 = .ok (.aload_n 0, 1) := by decide +kernel
theorem dX0_indexAt_19 : decode cX0_indexAt 19 = .ok (.getfield 11, 3) := by decide +kernel
theorem dX0_indexAt_22 : decode cX0_indexAt 22 = .ok (.iload_n 1, 1) := by decide +kernel
theorem dX0_indexAt_23 : decode cX0_indexAt 23 = .ok (.aaload, 1) := by decide +kernel
theorem dX0_indexAt_24 : decode cX0_indexAt 24 = .ok (.goto 4, 3) := by decide +kernel
theorem dX0_indexAt_27 : decode cX0_indexAt 27 = .ok (.aconst_null, 1) := by decide +kernel
theorem dX0_indexAt_28 : decode cX0_indexAt 28 = .ok (.areturn, 1) := by decide +kernel
theorem dX0_contractAt_0 : decode cX0_contractAt 0 = .ok (.iload_n 1, 1) := by decide +kernel
theorem dX0_contractAt_1 : decode cX0_contractAt 1 = .ok (.ifCond .lt 26, 3) := by decide +kernel
theorem dX0_contractAt_4 : decode cX0_contractAt 4 = .ok (.iload_n 1, 1) := by decide +kernel
theorem dX0_contractAt_5 : decode cX0_contractAt 5 = .ok (.aload_n 0, 1) := by decide +kernel
theorem dX0_contractAt_6 : decode cX0_contractAt 6 = .ok (.getfield 32, 3) := by decide +kernel
theorem dX0_contractAt_9 : decode cX0_contractAt 9 = .ok (.if_icmp .ge 18, 3) := by decide +kernel
theorem dX0_contractAt_12 : decode cX0_contractAt 12 = .ok (.iload_n 1, 1) := by decide +kernel
theorem dX0_contractAt_13 : decode cX0_contractAt 13 = .ok (.bipush 6, 2) := by decide +kernel
theorem dX0_contractAt_15 : decode cX0_contractAt 15 = .ok (.if_icmp .ge 12, 3) := by decide +kernel
theorem dX0_contractAt_18 : decode cX0_contractAt 18 = .ok (.aload_n 0, 1) := by decide +kernel
theorem dX0_contractAt_19 : decode cX0_contractAt 19 = .ok (.getfield 20, 3) := by decide +kernel
theorem dX0_contractAt_22 : decode cX0_contractAt 22 = .ok (.iload_n 1, 1) := by decide +kernel
theorem dX0_contractAt_23 : decode cX0_contractAt 23 = .ok (.aaload, 1) := by decide +kernel
theorem dX0_contractAt_24 : decode cX0_contractAt 24 = .ok (.goto 4, 3) := by decide +kernel
theorem dX0_contractAt_27 : decode cX0_contractAt 27 = .ok (.aconst_null, 1) := by decide +kernel
theorem dX0_contractAt_28 : decode cX0_contractAt 28 = .ok (.areturn, 1) := by decide +kernel
theorem dX0_isPast_0 : decode cX0_isPast 0 = .ok (.iload_n 1, 1) := by decide +kernel
theorem dX0_isPast_1 : decode cX0_isPast 1 = .ok (.ifCond .lt 15, 3) := by decide +kernel
theorem dX0_isPast_4 : decode cX0_isPast 4 = .ok (.iload_n 1, 1) := by decide +kernel
theorem dX0_isPast_5 : decode cX0_isPast 5 = .ok (.aload_n 0, 1) := by decide +kernel
theorem dX0_isPast_6 : decode cX0_isPast 6 = .ok (.getfield 25, 3) := by decide +kernel
theorem dX0_isPast_9 : decode cX0_isPast 9 = .ok (.if_icmp .gt 7, 3) := by decide +kernel
theorem dX0_isPast_12 : decode cX0_isPast 12 = .ok (.iconst 1, 1) := by decide +kernel
theorem dX0_isPast_13 : decode cX0_isPast 13 = .ok (.goto 4, 3) := by decide +kernel
theorem dX0_isPast_16 : decode cX0_isPast 16 = .ok (.iconst 0, 1) := by decide +kernel
theorem dX0_isPast_17 : decode cX0_isPast 17 = .ok (.ireturn, 1) := by decide +kernel
theorem dX0_isPriced_0 : decode cX0_isPriced 0 = .ok (.iload_n 2, 1) := by decide +kernel
theorem dX0_isPriced_1 : decode cX0_isPriced 1 = .ok (.aload_n 1, 1) := by decide +kernel
theorem dX0_isPriced_2 : decode cX0_isPriced 2 = .ok (.getfield 41, 3) := by decide +kernel
theorem dX0_isPriced_5 : decode cX0_isPriced 5 = .ok (.if_icmp .lt 15, 3) := by decide +kernel
theorem dX0_isPriced_8 : decode cX0_isPriced 8 = .ok (.iload_n 2, 1) := by decide +kernel
theorem dX0_isPriced_9 : decode cX0_isPriced 9 = .ok (.aload_n 0, 1) := by decide +kernel
theorem dX0_isPriced_10 : decode cX0_isPriced 10 = .ok (.getfield 25, 3) := by decide +kernel
theorem dX0_isPriced_13 : decode cX0_isPriced 13 = .ok (.if_icmp .gt 7, 3) := by decide +kernel
theorem dX0_isPriced_16 : decode cX0_isPriced 16 = .ok (.iconst 1, 1) := by decide +kernel
theorem dX0_isPriced_17 : decode cX0_isPriced 17 = .ok (.goto 4, 3) := by decide +kernel
theorem dX0_isPriced_20 : decode cX0_isPriced 20 = .ok (.iconst 0, 1) := by decide +kernel
theorem dX0_isPriced_21 : decode cX0_isPriced 21 = .ok (.ireturn, 1) := by decide +kernel
theorem dX0_factorOf_0 : decode cX0_factorOf 0 = .ok (.aload_n 1, 1) := by decide +kernel
theorem dX0_factorOf_1 : decode cX0_factorOf 1 = .ok (.getfield 44, 3) := by decide +kernel
theorem dX0_factorOf_4 : decode cX0_factorOf 4 = .ok (.i2l, 1) := by decide +kernel
theorem dX0_factorOf_5 : decode cX0_factorOf 5 = .ok (.ldc2_w 47, 3) := by decide +kernel
theorem dX0_factorOf_8 : decode cX0_factorOf 8 = .ok (.lmul, 1) := by decide +kernel
theorem dX0_factorOf_9 : decode cX0_factorOf 9 = .ok (.lstore_n 3, 1) := by decide +kernel
theorem dX0_factorOf_10 : decode cX0_factorOf 10 = .ok (.iconst 0, 1) := by decide +kernel
theorem dX0_factorOf_11 : decode cX0_factorOf 11 = .ok (.istore 5, 2) := by decide +kernel
theorem dX0_factorOf_13 : decode cX0_factorOf 13 = .ok (.iload 5, 2) := by decide +kernel
theorem dX0_factorOf_15 : decode cX0_factorOf 15 = .ok (.aload_n 1, 1) := by decide +kernel
theorem dX0_factorOf_16 : decode cX0_factorOf 16 = .ok (.getfield 38, 3) := by decide +kernel
theorem dX0_factorOf_19 : decode cX0_factorOf 19 = .ok (.if_icmp .ge 62, 3) := by decide +kernel
theorem dX0_factorOf_22 : decode cX0_factorOf 22 = .ok (.iload 5, 2) := by decide +kernel
theorem dX0_factorOf_24 : decode cX0_factorOf 24 = .ok (.bipush 6, 2) := by decide +kernel
theorem dX0_factorOf_26 : decode cX0_factorOf 26 = .ok (.if_icmp .ge 55, 3) := by decide +kernel
theorem dX0_factorOf_29 : decode cX0_factorOf 29 = .ok (.aload_n 0, 1) := by decide +kernel
theorem dX0_factorOf_30 : decode cX0_factorOf 30 = .ok (.aload_n 1, 1) := by decide +kernel
theorem dX0_factorOf_31 : decode cX0_factorOf 31 = .ok (.getfield 49, 3) := by decide +kernel
theorem dX0_factorOf_34 : decode cX0_factorOf 34 = .ok (.iload 5, 2) := by decide +kernel
theorem dX0_factorOf_36 : decode cX0_factorOf 36 = .ok (.iaload, 1) := by decide +kernel
theorem dX0_factorOf_37 : decode cX0_factorOf 37 = .ok (.invokevirtual 52, 3) := by decide +kernel
theorem dX0_factorOf_40 : decode cX0_factorOf 40 = .ok (.astore 6, 2) := by decide +kernel
theorem dX0_factorOf_42 : decode cX0_factorOf 42 = .ok (.aload 6, 2) := by decide +kernel
theorem dX0_factorOf_44 : decode cX0_factorOf 44 = .ok (.ifnull 31, 3) := by decide +kernel
theorem dX0_factorOf_47 : decode cX0_factorOf 47 = .ok (.lload_n 3, 1) := by decide +kernel
theorem dX0_factorOf_48 : decode cX0_factorOf 48 = .ok (.aload_n 1, 1) := by decide +kernel
theorem dX0_factorOf_49 : decode cX0_factorOf 49 = .ok (.getfield 56, 3) := by decide +kernel
theorem dX0_factorOf_52 : decode cX0_factorOf 52 = .ok (.iload 5, 2) := by decide +kernel
theorem dX0_factorOf_54 : decode cX0_factorOf 54 = .ok (.iaload, 1) := by decide +kernel
theorem dX0_factorOf_55 : decode cX0_factorOf 55 = .ok (.i2l, 1) := by decide +kernel
theorem dX0_factorOf_56 : decode cX0_factorOf 56 = .ok (.aload 6, 2) := by decide +kernel
theorem dX0_factorOf_58 : decode cX0_factorOf 58 = .ok (.aload_n 1, 1) := by decide +kernel
theorem dX0_factorOf_59 : decode cX0_factorOf 59 = .ok (.getfield 41, 3) := by decide +kernel
theorem dX0_factorOf_62 : decode cX0_factorOf 62 = .ok (.aload 6, 2) := by decide +kernel
theorem dX0_factorOf_64 : decode cX0_factorOf 64 = .ok (.iload_n 2, 1) := by decide +kernel
theorem dX0_factorOf_65 : decode cX0_factorOf 65 = .ok (.invokevirtual 59, 3) := by decide +kernel
theorem dX0_factorOf_68 : decode cX0_factorOf 68 = .ok (.invokevirtual 63, 3) := by decide +kernel
theorem dX0_factorOf_71 : decode cX0_factorOf 71 = .ok (.i2l, 1) := by decide +kernel
theorem dX0_factorOf_72 : decode cX0_factorOf 72 = .ok (.lmul, 1) := by decide +kernel
theorem dX0_factorOf_73 : decode cX0_factorOf 73 = .ok (.ladd, 1) := by decide +kernel
theorem dX0_factorOf_74 : decode cX0_factorOf 74 = .ok (.lstore_n 3, 1) := by decide +kernel
theorem dX0_factorOf_75 : decode cX0_factorOf 75 = .ok (.iinc 5 1, 3) := by decide +kernel
theorem dX0_factorOf_78 : decode cX0_factorOf 78 = .ok (.goto (-65), 3) := by decide +kernel
theorem dX0_factorOf_81 : decode cX0_factorOf 81 = .ok (.lload_n 3, 1) := by decide +kernel
theorem dX0_factorOf_82 : decode cX0_factorOf 82 = .ok (.ldc2_w 67, 3) := by decide +kernel
theorem dX0_factorOf_85 : decode cX0_factorOf 85 = .ok (.ldiv, 1) := by decide +kernel
theorem dX0_factorOf_86 : decode cX0_factorOf 86 = .ok (.l2i, 1) := by decide +kernel
theorem dX0_factorOf_87 : decode cX0_factorOf 87 = .ok (.ireturn, 1) := by decide +kernel
theorem dX0_priceFor_0 : decode cX0_priceFor 0 = .ok (.aload_n 1, 1) := by decide +kernel
theorem dX0_priceFor_1 : decode cX0_priceFor 1 = .ok (.aload_n 1, 1) := by decide +kernel
theorem dX0_priceFor_2 : decode cX0_priceFor 2 = .ok (.aload_n 0, 1) := by decide +kernel
theorem dX0_priceFor_3 : decode cX0_priceFor 3 = .ok (.aload_n 1, 1) := by decide +kernel
theorem dX0_priceFor_4 : decode cX0_priceFor 4 = .ok (.iload_n 2, 1) := by decide +kernel
theorem dX0_priceFor_5 : decode cX0_priceFor 5 = .ok (.invokevirtual 69, 3) := by decide +kernel
theorem dX0_priceFor_8 : decode cX0_priceFor 8 = .ok (.invokevirtual 73, 3) := by decide +kernel
theorem dX0_priceFor_11 : decode cX0_priceFor 11 = .ok (.invokevirtual 76, 3) := by decide +kernel
theorem dX0_priceFor_14 : decode cX0_priceFor 14 = .ok (.ireturn, 1) := by decide +kernel
theorem dX0_priceWere_0 : decode cX0_priceWere 0 = .ok (.aload_n 2, 1) := by decide +kernel
theorem dX0_priceWere_1 : decode cX0_priceWere 1 = .ok (.aload_n 0, 1) := by decide +kernel
theorem dX0_priceWere_2 : decode cX0_priceWere 2 = .ok (.getfield 25, 3) := by decide +kernel
theorem dX0_priceWere_5 : decode cX0_priceWere 5 = .ok (.invokevirtual 79, 3) := by decide +kernel
theorem dX0_priceWere_8 : decode cX0_priceWere 8 = .ok (.istore 4, 2) := by decide +kernel
theorem dX0_priceWere_10 : decode cX0_priceWere 10 = .ok (.aload_n 2, 1) := by decide +kernel
theorem dX0_priceWere_11 : decode cX0_priceWere 11 = .ok (.aload_n 0, 1) := by decide +kernel
theorem dX0_priceWere_12 : decode cX0_priceWere 12 = .ok (.getfield 25, 3) := by decide +kernel
theorem dX0_priceWere_15 : decode cX0_priceWere 15 = .ok (.invokevirtual 82, 3) := by decide +kernel
theorem dX0_priceWere_18 : decode cX0_priceWere 18 = .ok (.istore 5, 2) := by decide +kernel
theorem dX0_priceWere_20 : decode cX0_priceWere 20 = .ok (.aload_n 2, 1) := by decide +kernel
theorem dX0_priceWere_21 : decode cX0_priceWere 21 = .ok (.aload_n 0, 1) := by decide +kernel
theorem dX0_priceWere_22 : decode cX0_priceWere 22 = .ok (.getfield 25, 3) := by decide +kernel
theorem dX0_priceWere_25 : decode cX0_priceWere 25 = .ok (.iload_n 3, 1) := by decide +kernel
theorem dX0_priceWere_26 : decode cX0_priceWere 26 = .ok (.iconst 2, 1) := by decide +kernel
theorem dX0_priceWere_27 : decode cX0_priceWere 27 = .ok (.invokevirtual 85, 3) := by decide +kernel
theorem dX0_priceWere_30 : decode cX0_priceWere 30 = .ok (.aload_n 0, 1) := by decide +kernel
theorem dX0_priceWere_31 : decode cX0_priceWere 31 = .ok (.aload_n 1, 1) := by decide +kernel
theorem dX0_priceWere_32 : decode cX0_priceWere 32 = .ok (.aload_n 0, 1) := by decide +kernel
theorem dX0_priceWere_33 : decode cX0_priceWere 33 = .ok (.getfield 25, 3) := by decide +kernel
theorem dX0_priceWere_36 : decode cX0_priceWere 36 = .ok (.invokevirtual 89, 3) := by decide +kernel
theorem dX0_priceWere_39 : decode cX0_priceWere 39 = .ok (.istore 6, 2) := by decide +kernel
theorem dX0_priceWere_41 : decode cX0_priceWere 41 = .ok (.aload_n 2, 1) := by decide +kernel
theorem dX0_priceWere_42 : decode cX0_priceWere 42 = .ok (.aload_n 0, 1) := by decide +kernel
theorem dX0_priceWere_43 : decode cX0_priceWere 43 = .ok (.getfield 25, 3) := by decide +kernel
theorem dX0_priceWere_46 : decode cX0_priceWere 46 = .ok (.iload 5, 2) := by decide +kernel
theorem dX0_priceWere_48 : decode cX0_priceWere 48 = .ok (.iload 4, 2) := by decide +kernel
theorem dX0_priceWere_50 : decode cX0_priceWere 50 = .ok (.invokevirtual 85, 3) := by decide +kernel
theorem dX0_priceWere_53 : decode cX0_priceWere 53 = .ok (.iload 6, 2) := by decide +kernel
theorem dX0_priceWere_55 : decode cX0_priceWere 55 = .ok (.ireturn, 1) := by decide +kernel
theorem dX0_waitsFor_0 : decode cX0_waitsFor 0 = .ok (.aload_n 0, 1) := by decide +kernel
theorem dX0_waitsFor_1 : decode cX0_waitsFor 1 = .ok (.iload_n 1, 1) := by decide +kernel
theorem dX0_waitsFor_2 : decode cX0_waitsFor 2 = .ok (.invokevirtual 92, 3) := by decide +kernel
theorem dX0_waitsFor_5 : decode cX0_waitsFor 5 = .ok (.astore_n 3, 1) := by decide +kernel
theorem dX0_waitsFor_6 : decode cX0_waitsFor 6 = .ok (.aload_n 3, 1) := by decide +kernel
theorem dX0_waitsFor_7 : decode cX0_waitsFor 7 = .ok (.ifnonnull 5, 3) := by decide +kernel
theorem dX0_waitsFor_10 : decode cX0_waitsFor 10 = .ok (.iconst 0, 1) := by decide +kernel
theorem dX0_waitsFor_11 : decode cX0_waitsFor 11 = .ok (.ireturn, 1) := by decide +kernel
theorem dX0_waitsFor_12 : decode cX0_waitsFor 12 = .ok (.iconst 0, 1) := by decide +kernel
theorem dX0_waitsFor_13 : decode cX0_waitsFor 13 = .ok (.istore 4, 2) := by decide +kernel
theorem dX0_waitsFor_15 : decode cX0_waitsFor 15 = .ok (.iconst 0, 1) := by decide +kernel
theorem dX0_waitsFor_16 : decode cX0_waitsFor 16 = .ok (.istore 5, 2) := by decide +kernel
theorem dX0_waitsFor_18 : decode cX0_waitsFor 18 = .ok (.iload 5, 2) := by decide +kernel
theorem dX0_waitsFor_20 : decode cX0_waitsFor 20 = .ok (.aload_n 3, 1) := by decide +kernel
theorem dX0_waitsFor_21 : decode cX0_waitsFor 21 = .ok (.getfield 38, 3) := by decide +kernel
theorem dX0_waitsFor_24 : decode cX0_waitsFor 24 = .ok (.if_icmp .ge 68, 3) := by decide +kernel
theorem dX0_waitsFor_27 : decode cX0_waitsFor 27 = .ok (.iload 5, 2) := by decide +kernel
theorem dX0_waitsFor_29 : decode cX0_waitsFor 29 = .ok (.bipush 6, 2) := by decide +kernel
theorem dX0_waitsFor_31 : decode cX0_waitsFor 31 = .ok (.if_icmp .ge 61, 3) := by decide +kernel
theorem dX0_waitsFor_34 : decode cX0_waitsFor 34 = .ok (.aload_n 0, 1) := by decide +kernel
theorem dX0_waitsFor_35 : decode cX0_waitsFor 35 = .ok (.aload_n 3, 1) := by decide +kernel
theorem dX0_waitsFor_36 : decode cX0_waitsFor 36 = .ok (.getfield 49, 3) := by decide +kernel
theorem dX0_waitsFor_39 : decode cX0_waitsFor 39 = .ok (.iload 5, 2) := by decide +kernel
theorem dX0_waitsFor_41 : decode cX0_waitsFor 41 = .ok (.iaload, 1) := by decide +kernel
theorem dX0_waitsFor_42 : decode cX0_waitsFor 42 = .ok (.invokevirtual 52, 3) := by decide +kernel
theorem dX0_waitsFor_45 : decode cX0_waitsFor 45 = .ok (.astore 6, 2) := by decide +kernel
theorem dX0_waitsFor_47 : decode cX0_waitsFor 47 = .ok (.aload 6, 2) := by decide +kernel
theorem dX0_waitsFor_49 : decode cX0_waitsFor 49 = .ok (.ifnull 37, 3) := by decide +kernel
theorem dX0_waitsFor_52 : decode cX0_waitsFor 52 = .ok (.aload_n 3, 1) := by decide +kernel
theorem dX0_waitsFor_53 : decode cX0_waitsFor 53 = .ok (.getfield 56, 3) := by decide +kernel
theorem dX0_waitsFor_56 : decode cX0_waitsFor 56 = .ok (.iload 5, 2) := by decide +kernel
theorem dX0_waitsFor_58 : decode cX0_waitsFor 58 = .ok (.iaload, 1) := by decide +kernel
theorem dX0_waitsFor_59 : decode cX0_waitsFor 59 = .ok (.ifCond .le 27, 3) := by decide +kernel
theorem dX0_waitsFor_62 : decode cX0_waitsFor 62 = .ok (.aload 6, 2) := by decide +kernel
theorem dX0_waitsFor_64 : decode cX0_waitsFor 64 = .ok (.iload_n 2, 1) := by decide +kernel
theorem dX0_waitsFor_65 : decode cX0_waitsFor 65 = .ok (.invokevirtual 79, 3) := by decide +kernel
theorem dX0_waitsFor_68 : decode cX0_waitsFor 68 = .ok (.iconst 2, 1) := by decide +kernel
theorem dX0_waitsFor_69 : decode cX0_waitsFor 69 = .ok (.if_icmp .eq 17, 3) := by decide +kernel
theorem dX0_waitsFor_72 : decode cX0_waitsFor 72 = .ok (.iload 4, 2) := by decide +kernel
theorem dX0_waitsFor_74 : decode cX0_waitsFor 74 = .ok (.iconst 1, 1) := by decide +kernel
theorem dX0_waitsFor_75 : decode cX0_waitsFor 75 = .ok (.aload_n 3, 1) := by decide +kernel
theorem dX0_waitsFor_76 : decode cX0_waitsFor 76 = .ok (.getfield 49, 3) := by decide +kernel
theorem dX0_waitsFor_79 : decode cX0_waitsFor 79 = .ok (.iload 5, 2) := by decide +kernel
theorem dX0_waitsFor_81 : decode cX0_waitsFor 81 = .ok (.iaload, 1) := by decide +kernel
theorem dX0_waitsFor_82 : decode cX0_waitsFor 82 = .ok (.ishl, 1) := by decide +kernel
theorem dX0_waitsFor_83 : decode cX0_waitsFor 83 = .ok (.ior, 1) := by decide +kernel
theorem dX0_waitsFor_84 : decode cX0_waitsFor 84 = .ok (.istore 4, 2) := by decide +kernel
theorem dX0_waitsFor_86 : decode cX0_waitsFor 86 = .ok (.iinc 5 1, 3) := by decide +kernel
theorem dX0_waitsFor_89 : decode cX0_waitsFor 89 = .ok (.goto (-71), 3) := by decide +kernel
theorem dX0_waitsFor_92 : decode cX0_waitsFor 92 = .ok (.iload 4, 2) := by decide +kernel
theorem dX0_waitsFor_94 : decode cX0_waitsFor 94 = .ok (.ireturn, 1) := by decide +kernel
theorem dX1_init_0 : decode cX1_init 0 = .ok (.aload_n 0, 1) := by decide +kernel
theorem dX1_init_1 : decode cX1_init 1 = .ok (.invokespecial 3, 3) := by decide +kernel
theorem dX1_init_4 : decode cX1_init 4 = .ok (.aload_n 0, 1) := by decide +kernel
theorem dX1_init_5 : decode cX1_init 5 = .ok (.bipush 6, 2) := by decide +kernel
theorem dX1_init_7 : decode cX1_init 7 = .ok (.newarray .int, 2) := by decide +kernel
theorem dX1_init_9 : decode cX1_init 9 = .ok (.putfield 9, 3) := by decide +kernel
theorem dX1_init_12 : decode cX1_init 12 = .ok (.aload_n 0, 1) := by decide +kernel
theorem dX1_init_13 : decode cX1_init 13 = .ok (.bipush 6, 2) := by decide +kernel
theorem dX1_init_15 : decode cX1_init 15 = .ok (.newarray .int, 2) := by decide +kernel
theorem dX1_init_17 : decode cX1_init 17 = .ok (.putfield 15, 3) := by decide +kernel
theorem dX1_init_20 : decode cX1_init 20 = .ok (.return_, 1) := by decide +kernel
theorem dX1_addTerm_0 : decode cX1_addTerm 0 = .ok (.aload_n 0, 1) := by decide +kernel
theorem dX1_addTerm_1 : decode cX1_addTerm 1 = .ok (.getfield 18, 3) := by decide +kernel
theorem dX1_addTerm_4 : decode cX1_addTerm 4 = .ok (.ifCond .lt 42, 3) := by decide +kernel
theorem dX1_addTerm_7 : decode cX1_addTerm 7 = .ok (.aload_n 0, 1) := by decide +kernel
theorem dX1_addTerm_8 : decode cX1_addTerm 8 = .ok (.getfield 18, 3) := by decide +kernel
theorem dX1_addTerm_11 : decode cX1_addTerm 11 = .ok (.bipush 6, 2) := by decide +kernel
theorem dX1_addTerm_13 : decode cX1_addTerm 13 = .ok (.if_icmp .ge 33, 3) := by decide +kernel
theorem dX1_addTerm_16 : decode cX1_addTerm 16 = .ok (.aload_n 0, 1) := by decide +kernel
theorem dX1_addTerm_17 : decode cX1_addTerm 17 = .ok (.getfield 9, 3) := by decide +kernel
theorem dX1_addTerm_20 : decode cX1_addTerm 20 = .ok (.aload_n 0, 1) := by decide +kernel
theorem dX1_addTerm_21 : decode cX1_addTerm 21 = .ok (.getfield 18, 3) := by decide +kernel
theorem dX1_addTerm_24 : decode cX1_addTerm 24 = .ok (.iload_n 1, 1) := by decide +kernel
theorem dX1_addTerm_25 : decode cX1_addTerm 25 = .ok (.iastore, 1) := by decide +kernel
theorem dX1_addTerm_26 : decode cX1_addTerm 26 = .ok (.aload_n 0, 1) := by decide +kernel
theorem dX1_addTerm_27 : decode cX1_addTerm 27 = .ok (.getfield 15, 3) := by decide +kernel
theorem dX1_addTerm_30 : decode cX1_addTerm 30 = .ok (.aload_n 0, 1) := by decide +kernel
theorem dX1_addTerm_31 : decode cX1_addTerm 31 = .ok (.getfield 18, 3) := by decide +kernel
theorem dX1_addTerm_34 : decode cX1_addTerm 34 = .ok (.iload_n 2, 1) := by decide +kernel
theorem dX1_addTerm_35 : decode cX1_addTerm 35 = .ok (.iastore, 1) := by decide +kernel
theorem dX1_addTerm_36 : decode cX1_addTerm 36 = .ok (.aload_n 0, 1) := by decide +kernel
theorem dX1_addTerm_37 : decode cX1_addTerm 37 = .ok (.dup, 1) := by decide +kernel
theorem dX1_addTerm_38 : decode cX1_addTerm 38 = .ok (.getfield 18, 3) := by decide +kernel
theorem dX1_addTerm_41 : decode cX1_addTerm 41 = .ok (.iconst 1, 1) := by decide +kernel
theorem dX1_addTerm_42 : decode cX1_addTerm 42 = .ok (.iadd, 1) := by decide +kernel
theorem dX1_addTerm_43 : decode cX1_addTerm 43 = .ok (.putfield 18, 3) := by decide +kernel
theorem dX1_addTerm_46 : decode cX1_addTerm 46 = .ok (.return_, 1) := by decide +kernel
theorem dX1_usesIndex_0 : decode cX1_usesIndex 0 = .ok (.iconst 0, 1) := by decide +kernel
theorem dX1_usesIndex_1 : decode cX1_usesIndex 1 = .ok (.istore_n 2, 1) := by decide +kernel
theorem dX1_usesIndex_2 : decode cX1_usesIndex 2 = .ok (.iload_n 2, 1) := by decide +kernel
theorem dX1_usesIndex_3 : decode cX1_usesIndex 3 = .ok (.aload_n 0, 1) := by decide +kernel
theorem dX1_usesIndex_4 : decode cX1_usesIndex 4 = .ok (.getfield 18, 3) := by decide +kernel
theorem dX1_usesIndex_7 : decode cX1_usesIndex 7 = .ok (.if_icmp .ge 27, 3) := by decide +kernel
theorem dX1_usesIndex_10 : decode cX1_usesIndex 10 = .ok (.iload_n 2, 1) := by decide +kernel
theorem dX1_usesIndex_11 : decode cX1_usesIndex 11 = .ok (.bipush 6, 2) := by decide +kernel
theorem dX1_usesIndex_13 : decode cX1_usesIndex 13 = .ok (.if_icmp .ge 21, 3) := by decide +kernel
theorem dX1_usesIndex_16 : decode cX1_usesIndex 16 = .ok (.aload_n 0, 1) := by decide +kernel
theorem dX1_usesIndex_17 : decode cX1_usesIndex 17 = .ok (.getfield 15, 3) := by decide +kernel
theorem dX1_usesIndex_20 : decode cX1_usesIndex 20 = .ok (.iload_n 2, 1) := by decide +kernel
theorem dX1_usesIndex_21 : decode cX1_usesIndex 21 = .ok (.iaload, 1) := by decide +kernel
theorem dX1_usesIndex_22 : decode cX1_usesIndex 22 = .ok (.iload_n 1, 1) := by decide +kernel
theorem dX1_usesIndex_23 : decode cX1_usesIndex 23 = .ok (.if_icmp .ne 5, 3) := by decide +kernel
theorem dX1_usesIndex_26 : decode cX1_usesIndex 26 = .ok (.iconst 1, 1) := by decide +kernel
theorem dX1_usesIndex_27 : decode cX1_usesIndex 27 = .ok (.ireturn, 1) := by decide +kernel
theorem dX1_usesIndex_28 : decode cX1_usesIndex 28 = .ok (.iinc 2 1, 3) := by decide +kernel
theorem dX1_usesIndex_31 : decode cX1_usesIndex 31 = .ok (.goto (-29), 3) := by decide +kernel
theorem dX1_usesIndex_34 : decode cX1_usesIndex 34 = .ok (.iconst 0, 1) := by decide +kernel
theorem dX1_usesIndex_35 : decode cX1_usesIndex 35 = .ok (.ireturn, 1) := by decide +kernel
theorem dX1_thousandths_0 : decode cX1_thousandths 0 = .ok (.aload_n 0, 1) := by decide +kernel
theorem dX1_thousandths_1 : decode cX1_thousandths 1 = .ok (.getfield 22, 3) := by decide +kernel
theorem dX1_thousandths_4 : decode cX1_thousandths 4 = .ok (.istore_n 1, 1) := by decide +kernel
theorem dX1_thousandths_5 : decode cX1_thousandths 5 = .ok (.iconst 0, 1) := by decide +kernel
theorem dX1_thousandths_6 : decode cX1_thousandths 6 = .ok (.istore_n 2, 1) := by decide +kernel
theorem dX1_thousandths_7 : decode cX1_thousandths 7 = .ok (.iload_n 2, 1) := by decide +kernel
theorem dX1_thousandths_8 : decode cX1_thousandths 8 = .ok (.aload_n 0, 1) := by decide +kernel
theorem dX1_thousandths_9 : decode cX1_thousandths 9 = .ok (.getfield 18, 3) := by decide +kernel
theorem dX1_thousandths_12 : decode cX1_thousandths 12 = .ok (.if_icmp .ge 24, 3) := by decide +kernel
theorem dX1_thousandths_15 : decode cX1_thousandths 15 = .ok (.iload_n 2, 1) := by decide +kernel
theorem dX1_thousandths_16 : decode cX1_thousandths 16 = .ok (.bipush 6, 2) := by decide +kernel
theorem dX1_thousandths_18 : decode cX1_thousandths 18 = .ok (.if_icmp .ge 18, 3) := by decide +kernel
theorem dX1_thousandths_21 : decode cX1_thousandths 21 = .ok (.iload_n 1, 1) := by decide +kernel
theorem dX1_thousandths_22 : decode cX1_thousandths 22 = .ok (.aload_n 0, 1) := by decide +kernel
theorem dX1_thousandths_23 : decode cX1_thousandths 23 = .ok (.getfield 9, 3) := by decide +kernel
theorem dX1_thousandths_26 : decode cX1_thousandths 26 = .ok (.iload_n 2, 1) := by decide +kernel
theorem dX1_thousandths_27 : decode cX1_thousandths 27 = .ok (.iaload, 1) := by decide +kernel
theorem dX1_thousandths_28 : decode cX1_thousandths 28 = .ok (.iadd, 1) := by decide +kernel
theorem dX1_thousandths_29 : decode cX1_thousandths 29 = .ok (.istore_n 1, 1) := by decide +kernel
theorem dX1_thousandths_30 : decode cX1_thousandths 30 = .ok (.iinc 2 1, 3) := by decide +kernel
theorem dX1_thousandths_33 : decode cX1_thousandths 33 = .ok (.goto (-26), 3) := by decide +kernel
theorem dX1_thousandths_36 : decode cX1_thousandths 36 = .ok (.iload_n 1, 1) := by decide +kernel
theorem dX1_thousandths_37 : decode cX1_thousandths 37 = .ok (.ireturn, 1) := by decide +kernel
theorem dX1_termFigure_0 : decode cX1_termFigure 0 = .ok (.iload_n 1, 1) := by decide +kernel
theorem dX1_termFigure_1 : decode cX1_termFigure 1 = .ok (.iconst 2, 1) := by decide +kernel
theorem dX1_termFigure_2 : decode cX1_termFigure 2 = .ok (.idiv, 1) := by decide +kernel
theorem dX1_termFigure_3 : decode cX1_termFigure 3 = .ok (.istore_n 2, 1) := by decide +kernel
theorem dX1_termFigure_4 : decode cX1_termFigure 4 = .ok (.iload_n 1, 1) := by decide +kernel
theorem dX1_termFigure_5 : decode cX1_termFigure 5 = .ok (.ifCond .lt 17, 3) := by decide +kernel
theorem dX1_termFigure_8 : decode cX1_termFigure 8 = .ok (.iload_n 2, 1) := by decide +kernel
theorem dX1_termFigure_9 : decode cX1_termFigure 9 = .ok (.aload_n 0, 1) := by decide +kernel
theorem dX1_termFigure_10 : decode cX1_termFigure 10 = .ok (.getfield 18, 3) := by decide +kernel
theorem dX1_termFigure_13 : decode cX1_termFigure 13 = .ok (.if_icmp .ge 9, 3) := by decide +kernel
theorem dX1_termFigure_16 : decode cX1_termFigure 16 = .ok (.iload_n 2, 1) := by decide +kernel
theorem dX1_termFigure_17 : decode cX1_termFigure 17 = .ok (.bipush 6, 2) := by decide +kernel
theorem dX1_termFigure_19 : decode cX1_termFigure 19 = .ok (.if_icmp .lt 5, 3) := by decide +kernel
theorem dX1_termFigure_22 : decode cX1_termFigure 22 = .ok (.iconst (-1), 1) := by decide +kernel
theorem dX1_termFigure_23 : decode cX1_termFigure 23 = .ok (.ireturn, 1) := by decide +kernel
theorem dX1_termFigure_24 : decode cX1_termFigure 24 = .ok (.iload_n 1, 1) := by decide +kernel
theorem dX1_termFigure_25 : decode cX1_termFigure 25 = .ok (.iconst 2, 1) := by decide +kernel
theorem dX1_termFigure_26 : decode cX1_termFigure 26 = .ok (.irem, 1) := by decide +kernel
theorem dX1_termFigure_27 : decode cX1_termFigure 27 = .ok (.ifCond .ne 12, 3) := by decide +kernel
theorem dX1_termFigure_30 : decode cX1_termFigure 30 = .ok (.aload_n 0, 1) := by decide +kernel
theorem dX1_termFigure_31 : decode cX1_termFigure 31 = .ok (.getfield 9, 3) := by decide +kernel
theorem dX1_termFigure_34 : decode cX1_termFigure 34 = .ok (.iload_n 2, 1) := by decide +kernel
theorem dX1_termFigure_35 : decode cX1_termFigure 35 = .ok (.iaload, 1) := by decide +kernel
theorem dX1_termFigure_36 : decode cX1_termFigure 36 = .ok (.goto 9, 3) := by decide +kernel
theorem dX1_termFigure_39 : decode cX1_termFigure 39 = .ok (.aload_n 0, 1) := by decide +kernel
theorem dX1_termFigure_40 : decode cX1_termFigure 40 = .ok (.getfield 15, 3) := by decide +kernel
theorem dX1_termFigure_43 : decode cX1_termFigure 43 = .ok (.iload_n 2, 1) := by decide +kernel
theorem dX1_termFigure_44 : decode cX1_termFigure 44 = .ok (.iaload, 1) := by decide +kernel
theorem dX1_termFigure_45 : decode cX1_termFigure 45 = .ok (.ireturn, 1) := by decide +kernel
theorem dX1_moveBy_0 : decode cX1_moveBy 0 = .ok (.iload_n 1, 1) := by decide +kernel
theorem dX1_moveBy_1 : decode cX1_moveBy 1 = .ok (.ldc 25, 2) := by decide +kernel
theorem dX1_moveBy_3 : decode cX1_moveBy 3 = .ok (.isub, 1) := by decide +kernel
theorem dX1_moveBy_4 : decode cX1_moveBy 4 = .ok (.istore_n 2, 1) := by decide +kernel
theorem dX1_moveBy_5 : decode cX1_moveBy 5 = .ok (.aload_n 0, 1) := by decide +kernel
theorem dX1_moveBy_6 : decode cX1_moveBy 6 = .ok (.getfield 26, 3) := by decide +kernel
theorem dX1_moveBy_9 : decode cX1_moveBy 9 = .ok (.sipush 1000, 3) := by decide +kernel
theorem dX1_moveBy_12 : decode cX1_moveBy 12 = .ok (.imul, 1) := by decide +kernel
theorem dX1_moveBy_13 : decode cX1_moveBy 13 = .ok (.istore_n 3, 1) := by decide +kernel
theorem dX1_moveBy_14 : decode cX1_moveBy 14 = .ok (.iload_n 2, 1) := by decide +kernel
theorem dX1_moveBy_15 : decode cX1_moveBy 15 = .ok (.invokestatic 29, 3) := by decide +kernel
theorem dX1_moveBy_18 : decode cX1_moveBy 18 = .ok (.iload_n 3, 1) := by decide +kernel
theorem dX1_moveBy_19 : decode cX1_moveBy 19 = .ok (.if_icmp .gt 5, 3) := by decide +kernel
theorem dX1_moveBy_22 : decode cX1_moveBy 22 = .ok (.iconst 0, 1) := by decide +kernel
theorem dX1_moveBy_23 : decode cX1_moveBy 23 = .ok (.ireturn, 1) := by decide +kernel
theorem dX1_moveBy_24 : decode cX1_moveBy 24 = .ok (.aload_n 0, 1) := by decide +kernel
theorem dX1_moveBy_25 : decode cX1_moveBy 25 = .ok (.getfield 35, 3) := by decide +kernel
theorem dX1_moveBy_28 : decode cX1_moveBy 28 = .ok (.ifCond .eq 16, 3) := by decide +kernel
theorem dX1_moveBy_31 : decode cX1_moveBy 31 = .ok (.iload_n 2, 1) := by decide +kernel
theorem dX1_moveBy_32 : decode cX1_moveBy 32 = .ok (.iload_n 2, 1) := by decide +kernel
theorem dX1_moveBy_33 : decode cX1_moveBy 33 = .ok (.ifCond .ge 7, 3) := by decide +kernel
theorem dX1_moveBy_36 : decode cX1_moveBy 36 = .ok (.iload_n 3, 1) := by decide +kernel
theorem dX1_moveBy_37 : decode cX1_moveBy 37 = .ok (.goto 5, 3) := by decide +kernel
theorem dX1_moveBy_40 : decode cX1_moveBy 40 = .ok (.iload_n 3, 1) := by decide +kernel
theorem dX1_moveBy_41 : decode cX1_moveBy 41 = .ok (.ineg, 1) := by decide +kernel
theorem dX1_moveBy_42 : decode cX1_moveBy 42 = .ok (.iadd, 1) := by decide +kernel
theorem dX1_moveBy_43 : decode cX1_moveBy 43 = .ok (.istore_n 2, 1) := by decide +kernel
theorem dX1_moveBy_44 : decode cX1_moveBy 44 = .ok (.iload_n 2, 1) := by decide +kernel
theorem dX1_moveBy_45 : decode cX1_moveBy 45 = .ok (.i2l, 1) := by decide +kernel
theorem dX1_moveBy_46 : decode cX1_moveBy 46 = .ok (.aload_n 0, 1) := by decide +kernel
theorem dX1_moveBy_47 : decode cX1_moveBy 47 = .ok (.getfield 39, 3) := by decide +kernel
theorem dX1_moveBy_50 : decode cX1_moveBy 50 = .ok (.i2l, 1) := by decide +kernel
theorem dX1_moveBy_51 : decode cX1_moveBy 51 = .ok (.lmul, 1) := by decide +kernel
theorem dX1_moveBy_52 : decode cX1_moveBy 52 = .ok (.ldc2_w 42, 3) := by decide +kernel
theorem dX1_moveBy_55 : decode cX1_moveBy 55 = .ok (.ldiv, 1) := by decide +kernel
theorem dX1_moveBy_56 : decode cX1_moveBy 56 = .ok (.l2i, 1) := by decide +kernel
theorem dX1_moveBy_57 : decode cX1_moveBy 57 = .ok (.ireturn, 1) := by decide +kernel
theorem dX1_priceBy_0 : decode cX1_priceBy 0 = .ok (.aload_n 0, 1) := by decide +kernel
theorem dX1_priceBy_1 : decode cX1_priceBy 1 = .ok (.getfield 44, 3) := by decide +kernel
theorem dX1_priceBy_4 : decode cX1_priceBy 4 = .ok (.i2l, 1) := by decide +kernel
theorem dX1_priceBy_5 : decode cX1_priceBy 5 = .ok (.ldc 25, 2) := by decide +kernel
theorem dX1_priceBy_7 : decode cX1_priceBy 7 = .ok (.iload_n 1, 1) := by decide +kernel
theorem dX1_priceBy_8 : decode cX1_priceBy 8 = .ok (.iadd, 1) := by decide +kernel
theorem dX1_priceBy_9 : decode cX1_priceBy 9 = .ok (.i2l, 1) := by decide +kernel
theorem dX1_priceBy_10 : decode cX1_priceBy 10 = .ok (.lmul, 1) := by decide +kernel
theorem dX1_priceBy_11 : decode cX1_priceBy 11 = .ok (.ldc2_w 47, 3) := by decide +kernel
theorem dX1_priceBy_14 : decode cX1_priceBy 14 = .ok (.ladd, 1) := by decide +kernel
theorem dX1_priceBy_15 : decode cX1_priceBy 15 = .ok (.ldc2_w 49, 3) := by decide +kernel
theorem dX1_priceBy_18 : decode cX1_priceBy 18 = .ok (.ldiv, 1) := by decide +kernel
theorem dX1_priceBy_19 : decode cX1_priceBy 19 = .ok (.l2i, 1) := by decide +kernel
theorem dX1_priceBy_20 : decode cX1_priceBy 20 = .ok (.ireturn, 1) := by decide +kernel
theorem dX2_init_0 : decode cX2_init 0 = .ok (.aload_n 0, 1) := by decide +kernel
theorem dX2_init_1 : decode cX2_init 1 = .ok (.invokespecial 3, 3) := by decide +kernel
theorem dX2_init_4 : decode cX2_init 4 = .ok (.return_, 1) := by decide +kernel
theorem dX2_take_0 : decode cX2_take 0 = .ok (.aload_n 0, 1) := by decide +kernel
theorem dX2_take_1 : decode cX2_take 1 = .ok (.iload_n 1, 1) := by decide +kernel
theorem dX2_take_2 : decode cX2_take 2 = .ok (.putfield 9, 3) := by decide +kernel
theorem dX2_take_5 : decode cX2_take 5 = .ok (.aload_n 0, 1) := by decide +kernel
theorem dX2_take_6 : decode cX2_take 6 = .ok (.iload_n 2, 1) := by decide +kernel
theorem dX2_take_7 : decode cX2_take 7 = .ok (.putfield 15, 3) := by decide +kernel
theorem dX2_take_10 : decode cX2_take 10 = .ok (.aload_n 0, 1) := by decide +kernel
theorem dX2_take_11 : decode cX2_take 11 = .ok (.iload_n 3, 1) := by decide +kernel
theorem dX2_take_12 : decode cX2_take 12 = .ok (.putfield 18, 3) := by decide +kernel
theorem dX2_take_15 : decode cX2_take 15 = .ok (.aload_n 0, 1) := by decide +kernel
theorem dX2_take_16 : decode cX2_take 16 = .ok (.iload 4, 2) := by decide +kernel
theorem dX2_take_18 : decode cX2_take 18 = .ok (.putfield 21, 3) := by decide +kernel
theorem dX2_take_21 : decode cX2_take 21 = .ok (.aload_n 0, 1) := by decide +kernel
theorem dX2_take_22 : decode cX2_take 22 = .ok (.invokevirtual 24, 3) := by decide +kernel
theorem dX2_take_25 : decode cX2_take 25 = .ok (.return_, 1) := by decide +kernel
theorem dX2_bill_0 : decode cX2_bill 0 = .ok (.iload_n 1, 1) := by decide +kernel
theorem dX2_bill_1 : decode cX2_bill 1 = .ok (.iload_n 2, 1) := by decide +kernel
theorem dX2_bill_2 : decode cX2_bill 2 = .ok (.if_icmp .gt 7, 3) := by decide +kernel
theorem dX2_bill_5 : decode cX2_bill 5 = .ok (.iconst 1, 1) := by decide +kernel
theorem dX2_bill_6 : decode cX2_bill 6 = .ok (.goto 4, 3) := by decide +kernel
theorem dX2_bill_9 : decode cX2_bill 9 = .ok (.iconst 0, 1) := by decide +kernel
theorem dX2_bill_10 : decode cX2_bill 10 = .ok (.istore_n 3, 1) := by decide +kernel
theorem dX2_bill_11 : decode cX2_bill 11 = .ok (.aload_n 0, 1) := by decide +kernel
theorem dX2_bill_12 : decode cX2_bill 12 = .ok (.iload_n 3, 1) := by decide +kernel
theorem dX2_bill_13 : decode cX2_bill 13 = .ok (.ifCond .eq 10, 3) := by decide +kernel
theorem dX2_bill_16 : decode cX2_bill 16 = .ok (.aload_n 0, 1) := by decide +kernel
theorem dX2_bill_17 : decode cX2_bill 17 = .ok (.getfield 15, 3) := by decide +kernel
theorem dX2_bill_20 : decode cX2_bill 20 = .ok (.goto 7, 3) := by decide +kernel
theorem dX2_bill_23 : decode cX2_bill 23 = .ok (.aload_n 0, 1) := by decide +kernel
theorem dX2_bill_24 : decode cX2_bill 24 = .ok (.getfield 18, 3) := by decide +kernel
theorem dX2_bill_27 : decode cX2_bill 27 = .ok (.putfield 27, 3) := by decide +kernel
theorem dX2_bill_30 : decode cX2_bill 30 = .ok (.aload_n 0, 1) := by decide +kernel
theorem dX2_bill_31 : decode cX2_bill 31 = .ok (.iload_n 3, 1) := by decide +kernel
theorem dX2_bill_32 : decode cX2_bill 32 = .ok (.ifCond .eq 7, 3) := by decide +kernel
theorem dX2_bill_35 : decode cX2_bill 35 = .ok (.iload_n 1, 1) := by decide +kernel
theorem dX2_bill_36 : decode cX2_bill 36 = .ok (.goto 4, 3) := by decide +kernel
theorem dX2_bill_39 : decode cX2_bill 39 = .ok (.iload_n 2, 1) := by decide +kernel
theorem dX2_bill_40 : decode cX2_bill 40 = .ok (.putfield 30, 3) := by decide +kernel
theorem dX2_bill_43 : decode cX2_bill 43 = .ok (.return_, 1) := by decide +kernel
theorem dX2_billed_0 : decode cX2_billed 0 = .ok (.aload_n 0, 1) := by decide +kernel
theorem dX2_billed_1 : decode cX2_billed 1 = .ok (.getfield 21, 3) := by decide +kernel
theorem dX2_billed_4 : decode cX2_billed 4 = .ok (.i2l, 1) := by decide +kernel
theorem dX2_billed_5 : decode cX2_billed 5 = .ok (.aload_n 0, 1) := by decide +kernel
theorem dX2_billed_6 : decode cX2_billed 6 = .ok (.getfield 30, 3) := by decide +kernel
theorem dX2_billed_9 : decode cX2_billed 9 = .ok (.i2l, 1) := by decide +kernel
theorem dX2_billed_10 : decode cX2_billed 10 = .ok (.lmul, 1) := by decide +kernel
theorem dX2_billed_11 : decode cX2_billed 11 = .ok (.lreturn, 1) := by decide +kernel
theorem dX2_isSettled_0 : decode cX2_isSettled 0 = .ok (.aload_n 0, 1) := by decide +kernel
theorem dX2_isSettled_1 : decode cX2_isSettled 1 = .ok (.getfield 33, 3) := by decide +kernel
theorem dX2_isSettled_4 : decode cX2_isSettled 4 = .ok (.iconst (-1), 1) := by decide +kernel
theorem dX2_isSettled_5 : decode cX2_isSettled 5 = .ok (.if_icmp .eq 7, 3) := by decide +kernel
theorem dX2_isSettled_8 : decode cX2_isSettled 8 = .ok (.iconst 1, 1) := by decide +kernel
theorem dX2_isSettled_9 : decode cX2_isSettled 9 = .ok (.goto 4, 3) := by decide +kernel
theorem dX2_isSettled_12 : decode cX2_isSettled 12 = .ok (.iconst 0, 1) := by decide +kernel
theorem dX2_isSettled_13 : decode cX2_isSettled 13 = .ok (.ireturn, 1) := by decide +kernel
theorem dX2_settle_0 : decode cX2_settle 0 = .ok (.aload_n 0, 1) := by decide +kernel
theorem dX2_settle_1 : decode cX2_settle 1 = .ok (.aload_n 0, 1) := by decide +kernel
theorem dX2_settle_2 : decode cX2_settle 2 = .ok (.getfield 21, 3) := by decide +kernel
theorem dX2_settle_5 : decode cX2_settle 5 = .ok (.i2l, 1) := by decide +kernel
theorem dX2_settle_6 : decode cX2_settle 6 = .ok (.iload_n 1, 1) := by decide +kernel
theorem dX2_settle_7 : decode cX2_settle 7 = .ok (.i2l, 1) := by decide +kernel
theorem dX2_settle_8 : decode cX2_settle 8 = .ok (.lmul, 1) := by decide +kernel
theorem dX2_settle_9 : decode cX2_settle 9 = .ok (.aload_n 0, 1) := by decide +kernel
theorem dX2_settle_10 : decode cX2_settle 10 = .ok (.invokevirtual 36, 3) := by decide +kernel
theorem dX2_settle_13 : decode cX2_settle 13 = .ok (.lsub, 1) := by decide +kernel
theorem dX2_settle_14 : decode cX2_settle 14 = .ok (.putfield 40, 3) := by decide +kernel
theorem dX2_settle_17 : decode cX2_settle 17 = .ok (.aload_n 0, 1) := by decide +kernel
theorem dX2_settle_18 : decode cX2_settle 18 = .ok (.iload_n 2, 1) := by decide +kernel
theorem dX2_settle_19 : decode cX2_settle 19 = .ok (.putfield 33, 3) := by decide +kernel
theorem dX2_settle_22 : decode cX2_settle 22 = .ok (.return_, 1) := by decide +kernel
theorem dX2_unsettle_0 : decode cX2_unsettle 0 = .ok (.aload_n 0, 1) := by decide +kernel
theorem dX2_unsettle_1 : decode cX2_unsettle 1 = .ok (.lconst 0, 1) := by decide +kernel
theorem dX2_unsettle_2 : decode cX2_unsettle 2 = .ok (.putfield 40, 3) := by decide +kernel
theorem dX2_unsettle_5 : decode cX2_unsettle 5 = .ok (.aload_n 0, 1) := by decide +kernel
theorem dX2_unsettle_6 : decode cX2_unsettle 6 = .ok (.iconst (-1), 1) := by decide +kernel
theorem dX2_unsettle_7 : decode cX2_unsettle 7 = .ok (.putfield 33, 3) := by decide +kernel
theorem dX2_unsettle_10 : decode cX2_unsettle 10 = .ok (.return_, 1) := by decide +kernel
theorem dX3_init_0 : decode cX3_init 0 = .ok (.aload_n 0, 1) := by decide +kernel
theorem dX3_init_1 : decode cX3_init 1 = .ok (.invokespecial 3, 3) := by decide +kernel
theorem dX3_init_4 : decode cX3_init 4 = .ok (.aload_n 0, 1) := by decide +kernel
theorem dX3_init_5 : decode cX3_init 5 = .ok (.bipush 8, 2) := by decide +kernel
theorem dX3_init_7 : decode cX3_init 7 = .ok (.newarray .int, 2) := by decide +kernel
theorem dX3_init_9 : decode cX3_init 9 = .ok (.putfield 9, 3) := by decide +kernel
theorem dX3_init_12 : decode cX3_init 12 = .ok (.aload_n 0, 1) := by decide +kernel
theorem dX3_init_13 : decode cX3_init 13 = .ok (.bipush 8, 2) := by decide +kernel
theorem dX3_init_15 : decode cX3_init 15 = .ok (.newarray .int, 2) := by decide +kernel
theorem dX3_init_17 : decode cX3_init 17 = .ok (.putfield 15, 3) := by decide +kernel
theorem dX3_init_20 : decode cX3_init 20 = .ok (.aload_n 0, 1) := by decide +kernel
theorem dX3_init_21 : decode cX3_init 21 = .ok (.bipush 8, 2) := by decide +kernel
theorem dX3_init_23 : decode cX3_init 23 = .ok (.newarray .int, 2) := by decide +kernel
theorem dX3_init_25 : decode cX3_init 25 = .ok (.putfield 18, 3) := by decide +kernel
theorem dX3_init_28 : decode cX3_init 28 = .ok (.aload_n 0, 1) := by decide +kernel
theorem dX3_init_29 : decode cX3_init 29 = .ok (.bipush 8, 2) := by decide +kernel
theorem dX3_init_31 : decode cX3_init 31 = .ok (.newarray .int, 2) := by decide +kernel
theorem dX3_init_33 : decode cX3_init 33 = .ok (.putfield 21, 3) := by decide +kernel
theorem dX3_init_36 : decode cX3_init 36 = .ok (.aload_n 0, 1) := by decide +kernel
theorem dX3_init_37 : decode cX3_init 37 = .ok (.bipush 8, 2) := by decide +kernel
theorem dX3_init_39 : decode cX3_init 39 = .ok (.newarray .int, 2) := by decide +kernel
theorem dX3_init_41 : decode cX3_init 41 = .ok (.putfield 24, 3) := by decide +kernel
theorem dX3_init_44 : decode cX3_init 44 = .ok (.return_, 1) := by decide +kernel
theorem dX3_forget_0 : decode cX3_forget 0 = .ok (.aload_n 0, 1) := by decide +kernel
theorem dX3_forget_1 : decode cX3_forget 1 = .ok (.iconst 0, 1) := by decide +kernel
theorem dX3_forget_2 : decode cX3_forget 2 = .ok (.putfield 27, 3) := by decide +kernel
theorem dX3_forget_5 : decode cX3_forget 5 = .ok (.return_, 1) := by decide +kernel
theorem dX3_keep_0 : decode cX3_keep 0 = .ok (.aload_n 0, 1) := by decide +kernel
theorem dX3_keep_1 : decode cX3_keep 1 = .ok (.getfield 31, 3) := by decide +kernel
theorem dX3_keep_4 : decode cX3_keep 4 = .ok (.ifCond .lt 12, 3) := by decide +kernel
theorem dX3_keep_7 : decode cX3_keep 7 = .ok (.aload_n 0, 1) := by decide +kernel
theorem dX3_keep_8 : decode cX3_keep 8 = .ok (.getfield 31, 3) := by decide +kernel
theorem dX3_keep_11 : decode cX3_keep 11 = .ok (.bipush 8, 2) := by decide +kernel
theorem dX3_keep_13 : decode cX3_keep 13 = .ok (.if_icmp .lt 4, 3) := by decide +kernel
theorem dX3_keep_16 : decode cX3_keep 16 = .ok (.return_, 1) := by decide +kernel
theorem dX3_keep_17 : decode cX3_keep 17 = .ok (.aload_n 0, 1) := by decide +kernel
theorem dX3_keep_18 : decode cX3_keep 18 = .ok (.getfield 9, 3) := by decide +kernel
theorem dX3_keep_21 : decode cX3_keep 21 = .ok (.aload_n 0, 1) := by decide +kernel
theorem dX3_keep_22 : decode cX3_keep 22 = .ok (.getfield 31, 3) := by decide +kernel
theorem dX3_keep_25 : decode cX3_keep 25 = .ok (.iload_n 1, 1) := by decide +kernel
theorem dX3_keep_26 : decode cX3_keep 26 = .ok (.iastore, 1) := by decide +kernel
theorem dX3_keep_27 : decode cX3_keep 27 = .ok (.aload_n 0, 1) := by decide +kernel
theorem dX3_keep_28 : decode cX3_keep 28 = .ok (.getfield 15, 3) := by decide +kernel
theorem dX3_keep_31 : decode cX3_keep 31 = .ok (.aload_n 0, 1) := by decide +kernel
theorem dX3_keep_32 : decode cX3_keep 32 = .ok (.getfield 31, 3) := by decide +kernel
theorem dX3_keep_35 : decode cX3_keep 35 = .ok (.iload_n 2, 1) := by decide +kernel
theorem dX3_keep_36 : decode cX3_keep 36 = .ok (.iastore, 1) := by decide +kernel
theorem dX3_keep_37 : decode cX3_keep 37 = .ok (.aload_n 0, 1) := by decide +kernel
theorem dX3_keep_38 : decode cX3_keep 38 = .ok (.getfield 18, 3) := by decide +kernel
theorem dX3_keep_41 : decode cX3_keep 41 = .ok (.aload_n 0, 1) := by decide +kernel
theorem dX3_keep_42 : decode cX3_keep 42 = .ok (.getfield 31, 3) := by decide +kernel
theorem dX3_keep_45 : decode cX3_keep 45 = .ok (.iload_n 3, 1) := by decide +kernel
theorem dX3_keep_46 : decode cX3_keep 46 = .ok (.iastore, 1) := by decide +kernel
theorem dX3_keep_47 : decode cX3_keep 47 = .ok (.aload_n 0, 1) := by decide +kernel
theorem dX3_keep_48 : decode cX3_keep 48 = .ok (.getfield 21, 3) := by decide +kernel
theorem dX3_keep_51 : decode cX3_keep 51 = .ok (.aload_n 0, 1) := by decide +kernel
theorem dX3_keep_52 : decode cX3_keep 52 = .ok (.getfield 31, 3) := by decide +kernel
theorem dX3_keep_55 : decode cX3_keep 55 = .ok (.iload 4, 2) := by decide +kernel
theorem dX3_keep_57 : decode cX3_keep 57 = .ok (.iastore, 1) := by decide +kernel
theorem dX3_keep_58 : decode cX3_keep 58 = .ok (.aload_n 0, 1) := by decide +kernel
theorem dX3_keep_59 : decode cX3_keep 59 = .ok (.getfield 24, 3) := by decide +kernel
theorem dX3_keep_62 : decode cX3_keep 62 = .ok (.aload_n 0, 1) := by decide +kernel
theorem dX3_keep_63 : decode cX3_keep 63 = .ok (.getfield 31, 3) := by decide +kernel
theorem dX3_keep_66 : decode cX3_keep 66 = .ok (.iload 5, 2) := by decide +kernel
theorem dX3_keep_68 : decode cX3_keep 68 = .ok (.iastore, 1) := by decide +kernel
theorem dX3_keep_69 : decode cX3_keep 69 = .ok (.aload_n 0, 1) := by decide +kernel
theorem dX3_keep_70 : decode cX3_keep 70 = .ok (.aload_n 0, 1) := by decide +kernel
theorem dX3_keep_71 : decode cX3_keep 71 = .ok (.getfield 31, 3) := by decide +kernel
theorem dX3_keep_74 : decode cX3_keep 74 = .ok (.iconst 1, 1) := by decide +kernel
theorem dX3_keep_75 : decode cX3_keep 75 = .ok (.iadd, 1) := by decide +kernel
theorem dX3_keep_76 : decode cX3_keep 76 = .ok (.bipush 8, 2) := by decide +kernel
theorem dX3_keep_78 : decode cX3_keep 78 = .ok (.irem, 1) := by decide +kernel
theorem dX3_keep_79 : decode cX3_keep 79 = .ok (.putfield 31, 3) := by decide +kernel
theorem dX3_keep_82 : decode cX3_keep 82 = .ok (.aload_n 0, 1) := by decide +kernel
theorem dX3_keep_83 : decode cX3_keep 83 = .ok (.aload_n 0, 1) := by decide +kernel
theorem dX3_keep_84 : decode cX3_keep 84 = .ok (.getfield 27, 3) := by decide +kernel
theorem dX3_keep_87 : decode cX3_keep 87 = .ok (.iconst 1, 1) := by decide +kernel
theorem dX3_keep_88 : decode cX3_keep 88 = .ok (.iadd, 1) := by decide +kernel
theorem dX3_keep_89 : decode cX3_keep 89 = .ok (.bipush 8, 2) := by decide +kernel
theorem dX3_keep_91 : decode cX3_keep 91 = .ok (.invokestatic 34, 3) := by decide +kernel
theorem dX3_keep_94 : decode cX3_keep 94 = .ok (.putfield 27, 3) := by decide +kernel
theorem dX3_keep_97 : decode cX3_keep 97 = .ok (.return_, 1) := by decide +kernel
theorem dX3_takeLatest_0 : decode cX3_takeLatest 0 = .ok (.aload_n 0, 1) := by decide +kernel
theorem dX3_takeLatest_1 : decode cX3_takeLatest 1 = .ok (.getfield 27, 3) := by decide +kernel
theorem dX3_takeLatest_4 : decode cX3_takeLatest 4 = .ok (.ifCond .gt 5, 3) := by decide +kernel
theorem dX3_takeLatest_7 : decode cX3_takeLatest 7 = .ok (.iconst (-1), 1) := by decide +kernel
theorem dX3_takeLatest_8 : decode cX3_takeLatest 8 = .ok (.ireturn, 1) := by decide +kernel
theorem dX3_takeLatest_9 : decode cX3_takeLatest 9 = .ok (.aload_n 0, 1) := by decide +kernel
theorem dX3_takeLatest_10 : decode cX3_takeLatest 10 = .ok (.aload_n 0, 1) := by decide +kernel
theorem dX3_takeLatest_11 : decode cX3_takeLatest 11 = .ok (.getfield 31, 3) := by decide +kernel
theorem dX3_takeLatest_14 : decode cX3_takeLatest 14 = .ok (.bipush 8, 2) := by decide +kernel
theorem dX3_takeLatest_16 : decode cX3_takeLatest 16 = .ok (.iadd, 1) := by decide +kernel
theorem dX3_takeLatest_17 : decode cX3_takeLatest 17 = .ok (.iconst 1, 1) := by decide +kernel
theorem dX3_takeLatest_18 : decode cX3_takeLatest 18 = .ok (.isub, 1) := by decide +kernel
theorem dX3_takeLatest_19 : decode cX3_takeLatest 19 = .ok (.bipush 8, 2) := by decide +kernel
theorem dX3_takeLatest_21 : decode cX3_takeLatest 21 = .ok (.irem, 1) := by decide +kernel
theorem dX3_takeLatest_22 : decode cX3_takeLatest 22 = .ok (.putfield 31, 3) := by decide +kernel
theorem dX3_takeLatest_25 : decode cX3_takeLatest 25 = .ok (.aload_n 0, 1) := by decide +kernel
theorem dX3_takeLatest_26 : decode cX3_takeLatest 26 = .ok (.dup, 1) := by decide +kernel
theorem dX3_takeLatest_27 : decode cX3_takeLatest 27 = .ok (.getfield 27, 3) := by decide +kernel
theorem dX3_takeLatest_30 : decode cX3_takeLatest 30 = .ok (.iconst 1, 1) := by decide +kernel
theorem dX3_takeLatest_31 : decode cX3_takeLatest 31 = .ok (.isub, 1) := by decide +kernel
theorem dX3_takeLatest_32 : decode cX3_takeLatest 32 = .ok (.putfield 27, 3) := by decide +kernel
theorem dX3_takeLatest_35 : decode cX3_takeLatest 35 = .ok (.aload_n 0, 1) := by decide +kernel
theorem dX3_takeLatest_36 : decode cX3_takeLatest 36 = .ok (.getfield 31, 3) := by decide +kernel
theorem dX3_takeLatest_39 : decode cX3_takeLatest 39 = .ok (.ireturn, 1) := by decide +kernel
theorem dX4_init_0 : decode cX4_init 0 = .ok (.aload_n 0, 1) := by decide +kernel
theorem dX4_init_1 : decode cX4_init 1 = .ok (.invokespecial 3, 3) := by decide +kernel
theorem dX4_init_4 : decode cX4_init 4 = .ok (.aload_n 0, 1) := by decide +kernel
theorem dX4_init_5 : decode cX4_init 5 = .ok (.bipush 36, 2) := by decide +kernel
theorem dX4_init_7 : decode cX4_init 7 = .ok (.newarray .int, 2) := by decide +kernel
theorem dX4_init_9 : decode cX4_init 9 = .ok (.putfield 9, 3) := by decide +kernel
theorem dX4_init_12 : decode cX4_init 12 = .ok (.aload_n 0, 1) := by decide +kernel
theorem dX4_init_13 : decode cX4_init 13 = .ok (.bipush 36, 2) := by decide +kernel
theorem dX4_init_15 : decode cX4_init 15 = .ok (.newarray .int, 2) := by decide +kernel
theorem dX4_init_17 : decode cX4_init 17 = .ok (.putfield 15, 3) := by decide +kernel
theorem dX4_init_20 : decode cX4_init 20 = .ok (.aload_n 0, 1) := by decide +kernel
theorem dX4_init_21 : decode cX4_init 21 = .ok (.iconst 3, 1) := by decide +kernel
theorem dX4_init_22 : decode cX4_init 22 = .ok (.newarray .int, 2) := by decide +kernel
theorem dX4_init_24 : decode cX4_init 24 = .ok (.putfield 18, 3) := by decide +kernel
theorem dX4_init_27 : decode cX4_init 27 = .ok (.aload_n 0, 1) := by decide +kernel
theorem dX4_init_28 : decode cX4_init 28 = .ok (.iconst 3, 1) := by decide +kernel
theorem dX4_init_29 : decode cX4_init 29 = .ok (.newarray .int, 2) := by decide +kernel
theorem dX4_init_31 : decode cX4_init 31 = .ok (.putfield 21, 3) := by decide +kernel
theorem dX4_init_34 : decode cX4_init 34 = .ok (.aload_n 0, 1) := by decide +kernel
theorem dX4_init_35 : decode cX4_init 35 = .ok (.iconst 3, 1) := by decide +kernel
theorem dX4_init_36 : decode cX4_init 36 = .ok (.newarray .int, 2) := by decide +kernel
theorem dX4_init_38 : decode cX4_init 38 = .ok (.putfield 24, 3) := by decide +kernel
theorem dX4_init_41 : decode cX4_init 41 = .ok (.return_, 1) := by decide +kernel
theorem dX4_forget_0 : decode cX4_forget 0 = .ok (.iconst 0, 1) := by decide +kernel
theorem dX4_forget_1 : decode cX4_forget 1 = .ok (.istore_n 1, 1) := by decide +kernel
theorem dX4_forget_2 : decode cX4_forget 2 = .ok (.iload_n 1, 1) := by decide +kernel
theorem dX4_forget_3 : decode cX4_forget 3 = .ok (.bipush 36, 2) := by decide +kernel
theorem dX4_forget_5 : decode cX4_forget 5 = .ok (.if_icmp .ge 23, 3) := by decide +kernel
theorem dX4_forget_8 : decode cX4_forget 8 = .ok (.aload_n 0, 1) := by decide +kernel
theorem dX4_forget_9 : decode cX4_forget 9 = .ok (.getfield 9, 3) := by decide +kernel
theorem dX4_forget_12 : decode cX4_forget 12 = .ok (.iload_n 1, 1) := by decide +kernel
theorem dX4_forget_13 : decode cX4_forget 13 = .ok (.iconst 0, 1) := by decide +kernel
theorem dX4_forget_14 : decode cX4_forget 14 = .ok (.iastore, 1) := by decide +kernel
theorem dX4_forget_15 : decode cX4_forget 15 = .ok (.aload_n 0, 1) := by decide +kernel
theorem dX4_forget_16 : decode cX4_forget 16 = .ok (.getfield 15, 3) := by decide +kernel
theorem dX4_forget_19 : decode cX4_forget 19 = .ok (.iload_n 1, 1) := by decide +kernel
theorem dX4_forget_20 : decode cX4_forget 20 = .ok (.iconst 0, 1) := by decide +kernel
theorem dX4_forget_21 : decode cX4_forget 21 = .ok (.iastore, 1) := by decide +kernel
theorem dX4_forget_22 : decode cX4_forget 22 = .ok (.iinc 1 1, 3) := by decide +kernel
theorem dX4_forget_25 : decode cX4_forget 25 = .ok (.goto (-23), 3) := by decide +kernel
theorem dX4_forget_28 : decode cX4_forget 28 = .ok (.aload_n 0, 1) := by decide +kernel
theorem dX4_forget_29 : decode cX4_forget 29 = .ok (.iconst 0, 1) := by decide +kernel
theorem dX4_forget_30 : decode cX4_forget 30 = .ok (.putfield 27, 3) := by decide +kernel
theorem dX4_forget_33 : decode cX4_forget 33 = .ok (.return_, 1) := by decide +kernel
theorem dX4_put_0 : decode cX4_put 0 = .ok (.iload_n 1, 1) := by decide +kernel
theorem dX4_put_1 : decode cX4_put 1 = .ok (.invokestatic 31, 3) := by decide +kernel
theorem dX4_put_4 : decode cX4_put 4 = .ok (.ifCond .eq 17, 3) := by decide +kernel
theorem dX4_put_7 : decode cX4_put 7 = .ok (.aload_n 0, 1) := by decide +kernel
theorem dX4_put_8 : decode cX4_put 8 = .ok (.getfield 9, 3) := by decide +kernel
theorem dX4_put_11 : decode cX4_put 11 = .ok (.iload_n 1, 1) := by decide +kernel
theorem dX4_put_12 : decode cX4_put 12 = .ok (.iload_n 2, 1) := by decide +kernel
theorem dX4_put_13 : decode cX4_put 13 = .ok (.iastore, 1) := by decide +kernel
theorem dX4_put_14 : decode cX4_put 14 = .ok (.aload_n 0, 1) := by decide +kernel
theorem dX4_put_15 : decode cX4_put 15 = .ok (.getfield 15, 3) := by decide +kernel
theorem dX4_put_18 : decode cX4_put 18 = .ok (.iload_n 1, 1) := by decide +kernel
theorem dX4_put_19 : decode cX4_put 19 = .ok (.iload_n 3, 1) := by decide +kernel
theorem dX4_put_20 : decode cX4_put 20 = .ok (.iastore, 1) := by decide +kernel
theorem dX4_put_21 : decode cX4_put 21 = .ok (.return_, 1) := by decide +kernel
theorem dX4_kindAt_0 : decode cX4_kindAt 0 = .ok (.iload_n 1, 1) := by decide +kernel
theorem dX4_kindAt_1 : decode cX4_kindAt 1 = .ok (.invokestatic 31, 3) := by decide +kernel
theorem dX4_kindAt_4 : decode cX4_kindAt 4 = .ok (.ifCond .eq 12, 3) := by decide +kernel
theorem dX4_kindAt_7 : decode cX4_kindAt 7 = .ok (.aload_n 0, 1) := by decide +kernel
theorem dX4_kindAt_8 : decode cX4_kindAt 8 = .ok (.getfield 15, 3) := by decide +kernel
theorem dX4_kindAt_11 : decode cX4_kindAt 11 = .ok (.iload_n 1, 1) := by decide +kernel
theorem dX4_kindAt_12 : decode cX4_kindAt 12 = .ok (.iaload, 1) := by decide +kernel
theorem dX4_kindAt_13 : decode cX4_kindAt 13 = .ok (.goto 4, 3) := by decide +kernel
theorem dX4_kindAt_16 : decode cX4_kindAt 16 = .ok (.iconst 0, 1) := by decide +kernel
theorem dX4_kindAt_17 : decode cX4_kindAt 17 = .ok (.ireturn, 1) := by decide +kernel
theorem dX4_hasValue_0 : decode cX4_hasValue 0 = .ok (.aload_n 0, 1) := by decide +kernel
theorem dX4_hasValue_1 : decode cX4_hasValue 1 = .ok (.iload_n 1, 1) := by decide +kernel
theorem dX4_hasValue_2 : decode cX4_hasValue 2 = .ok (.invokevirtual 35, 3) := by decide +kernel
theorem dX4_hasValue_5 : decode cX4_hasValue 5 = .ok (.ifCond .eq 7, 3) := by decide +kernel
theorem dX4_hasValue_8 : decode cX4_hasValue 8 = .ok (.iconst 1, 1) := by decide +kernel
theorem dX4_hasValue_9 : decode cX4_hasValue 9 = .ok (.goto 4, 3) := by decide +kernel
theorem dX4_hasValue_12 : decode cX4_hasValue 12 = .ok (.iconst 0, 1) := by decide +kernel
theorem dX4_hasValue_13 : decode cX4_hasValue 13 = .ok (.ireturn, 1) := by decide +kernel
theorem dX4_valueAt_0 : decode cX4_valueAt 0 = .ok (.iload_n 1, 1) := by decide +kernel
theorem dX4_valueAt_1 : decode cX4_valueAt 1 = .ok (.invokestatic 31, 3) := by decide +kernel
theorem dX4_valueAt_4 : decode cX4_valueAt 4 = .ok (.ifCond .eq 21, 3) := by decide +kernel
theorem dX4_valueAt_7 : decode cX4_valueAt 7 = .ok (.aload_n 0, 1) := by decide +kernel
theorem dX4_valueAt_8 : decode cX4_valueAt 8 = .ok (.getfield 15, 3) := by decide +kernel
theorem dX4_valueAt_11 : decode cX4_valueAt 11 = .ok (.iload_n 1, 1) := by decide +kernel
theorem dX4_valueAt_12 : decode cX4_valueAt 12 = .ok (.iaload, 1) := by decide +kernel
theorem dX4_valueAt_13 : decode cX4_valueAt 13 = .ok (.ifCond .eq 12, 3) := by decide +kernel
theorem dX4_valueAt_16 : decode cX4_valueAt 16 = .ok (.aload_n 0, 1) := by decide +kernel
theorem dX4_valueAt_17 : decode cX4_valueAt 17 = .ok (.getfield 9, 3) := by decide +kernel
theorem dX4_valueAt_20 : decode cX4_valueAt 20 = .ok (.iload_n 1, 1) := by decide +kernel
theorem dX4_valueAt_21 : decode cX4_valueAt 21 = .ok (.iaload, 1) := by decide +kernel
theorem dX4_valueAt_22 : decode cX4_valueAt 22 = .ok (.goto 4, 3) := by decide +kernel
theorem dX4_valueAt_25 : decode cX4_valueAt 25 = .ok (.iconst (-1), 1) := by decide +kernel
theorem dX4_valueAt_26 : decode cX4_valueAt 26 = .ok (.ireturn, 1) := by decide +kernel
theorem dX4_knownMonth_0 : decode cX4_knownMonth 0 = .ok (.iload_n 1, 1) := by decide +kernel
theorem dX4_knownMonth_1 : decode cX4_knownMonth 1 = .ok (.bipush 35, 2) := by decide +kernel
theorem dX4_knownMonth_3 : decode cX4_knownMonth 3 = .ok (.invokestatic 39, 3) := by decide +kernel
theorem dX4_knownMonth_6 : decode cX4_knownMonth 6 = .ok (.istore_n 2, 1) := by decide +kernel
theorem dX4_knownMonth_7 : decode cX4_knownMonth 7 = .ok (.iload_n 2, 1) := by decide +kernel
theorem dX4_knownMonth_8 : decode cX4_knownMonth 8 = .ok (.ifCond .lt 20, 3) := by decide +kernel
theorem dX4_knownMonth_11 : decode cX4_knownMonth 11 = .ok (.aload_n 0, 1) := by decide +kernel
theorem dX4_knownMonth_12 : decode cX4_knownMonth 12 = .ok (.getfield 15, 3) := by decide +kernel
theorem dX4_knownMonth_15 : decode cX4_knownMonth 15 = .ok (.iload_n 2, 1) := by decide +kernel
theorem dX4_knownMonth_16 : decode cX4_knownMonth 16 = .ok (.iaload, 1) := by decide +kernel
theorem dX4_knownMonth_17 : decode cX4_knownMonth 17 = .ok (.ifCond .eq 5, 3) := by decide +kernel
theorem dX4_knownMonth_20 : decode cX4_knownMonth 20 = .ok (.iload_n 2, 1) := by decide +kernel
theorem dX4_knownMonth_21 : decode cX4_knownMonth 21 = .ok (.ireturn, 1) := by decide +kernel
theorem dX4_knownMonth_22 : decode cX4_knownMonth 22 = .ok (.iinc 2 (-1), 3) := by decide +kernel
theorem dX4_knownMonth_25 : decode cX4_knownMonth 25 = .ok (.goto (-18), 3) := by decide +kernel
theorem dX4_knownMonth_28 : decode cX4_knownMonth 28 = .ok (.iconst (-1), 1) := by decide +kernel
theorem dX4_knownMonth_29 : decode cX4_knownMonth 29 = .ok (.ireturn, 1) := by decide +kernel
theorem dX4_hasRebasing_0 : decode cX4_hasRebasing 0 = .ok (.iload_n 1, 1) := by decide +kernel
theorem dX4_hasRebasing_1 : decode cX4_hasRebasing 1 = .ok (.ifCond .lt 20, 3) := by decide +kernel
theorem dX4_hasRebasing_4 : decode cX4_hasRebasing 4 = .ok (.iload_n 1, 1) := by decide +kernel
theorem dX4_hasRebasing_5 : decode cX4_hasRebasing 5 = .ok (.aload_n 0, 1) := by decide +kernel
theorem dX4_hasRebasing_6 : decode cX4_hasRebasing 6 = .ok (.getfield 27, 3) := by decide +kernel
theorem dX4_hasRebasing_9 : decode cX4_hasRebasing 9 = .ok (.if_icmp .ge 12, 3) := by decide +kernel
theorem dX4_hasRebasing_12 : decode cX4_hasRebasing 12 = .ok (.iload_n 1, 1) := by decide +kernel
theorem dX4_hasRebasing_13 : decode cX4_hasRebasing 13 = .ok (.iconst 3, 1) := by decide +kernel
theorem dX4_hasRebasing_14 : decode cX4_hasRebasing 14 = .ok (.if_icmp .ge 7, 3) := by decide +kernel
theorem dX4_hasRebasing_17 : decode cX4_hasRebasing 17 = .ok (.iconst 1, 1) := by decide +kernel
theorem dX4_hasRebasing_18 : decode cX4_hasRebasing 18 = .ok (.goto 4, 3) := by decide +kernel
theorem dX4_hasRebasing_21 : decode cX4_hasRebasing 21 = .ok (.iconst 0, 1) := by decide +kernel
theorem dX4_hasRebasing_22 : decode cX4_hasRebasing 22 = .ok (.ireturn, 1) := by decide +kernel
theorem dX4_latestRebasing_0 : decode cX4_latestRebasing 0 = .ok (.aload_n 0, 1) := by decide +kernel
theorem dX4_latestRebasing_1 : decode cX4_latestRebasing 1 = .ok (.aload_n 0, 1) := by decide +kernel
theorem dX4_latestRebasing_2 : decode cX4_latestRebasing 2 = .ok (.getfield 27, 3) := by decide +kernel
theorem dX4_latestRebasing_5 : decode cX4_latestRebasing 5 = .ok (.iconst 1, 1) := by decide +kernel
theorem dX4_latestRebasing_6 : decode cX4_latestRebasing 6 = .ok (.isub, 1) := by decide +kernel
theorem dX4_latestRebasing_7 : decode cX4_latestRebasing 7 = .ok (.invokevirtual 45, 3) := by decide +kernel
theorem dX4_latestRebasing_10 : decode cX4_latestRebasing 10 = .ok (.ifCond .eq 17, 3) := by decide +kernel
theorem dX4_latestRebasing_13 : decode cX4_latestRebasing 13 = .ok (.aload_n 0, 1) := by decide +kernel
theorem dX4_latestRebasing_14 : decode cX4_latestRebasing 14 = .ok (.getfield 18, 3) := by decide +kernel
theorem dX4_latestRebasing_17 : decode cX4_latestRebasing 17 = .ok (.aload_n 0, 1) := by decide +kernel
theorem dX4_latestRebasing_18 : decode cX4_latestRebasing 18 = .ok (.getfield 27, 3) := by decide +kernel
theorem dX4_latestRebasing_21 : decode cX4_latestRebasing 21 = .ok (.iconst 1, 1) := by decide +kernel
theorem dX4_latestRebasing_22 : decode cX4_latestRebasing 22 = .ok (.isub, 1) := by decide +kernel
theorem dX4_latestRebasing_23 : decode cX4_latestRebasing 23 = .ok (.iaload, 1) := by decide +kernel
theorem dX4_latestRebasing_24 : decode cX4_latestRebasing 24 = .ok (.goto 4, 3) := by decide +kernel
theorem dX4_latestRebasing_27 : decode cX4_latestRebasing 27 = .ok (.iconst (-1), 1) := by decide +kernel
theorem dX4_latestRebasing_28 : decode cX4_latestRebasing 28 = .ok (.ireturn, 1) := by decide +kernel
theorem dX4_addRebasing_0 : decode cX4_addRebasing 0 = .ok (.aload_n 0, 1) := by decide +kernel
theorem dX4_addRebasing_1 : decode cX4_addRebasing 1 = .ok (.getfield 27, 3) := by decide +kernel
theorem dX4_addRebasing_4 : decode cX4_addRebasing 4 = .ok (.ifCond .lt 55, 3) := by decide +kernel
theorem dX4_addRebasing_7 : decode cX4_addRebasing 7 = .ok (.aload_n 0, 1) := by decide +kernel
theorem dX4_addRebasing_8 : decode cX4_addRebasing 8 = .ok (.getfield 27, 3) := by decide +kernel
theorem dX4_addRebasing_11 : decode cX4_addRebasing 11 = .ok (.iconst 3, 1) := by decide +kernel
theorem dX4_addRebasing_12 : decode cX4_addRebasing 12 = .ok (.if_icmp .ge 47, 3) := by decide +kernel
theorem dX4_addRebasing_15 : decode cX4_addRebasing 15 = .ok (.aload_n 0, 1) := by decide +kernel
theorem dX4_addRebasing_16 : decode cX4_addRebasing 16 = .ok (.getfield 18, 3) := by decide +kernel
theorem dX4_addRebasing_19 : decode cX4_addRebasing 19 = .ok (.aload_n 0, 1) := by decide +kernel
theorem dX4_addRebasing_20 : decode cX4_addRebasing 20 = .ok (.getfield 27, 3) := by decide +kernel
theorem dX4_addRebasing_23 : decode cX4_addRebasing 23 = .ok (.iload_n 1, 1) := by decide +kernel
theorem dX4_addRebasing_24 : decode cX4_addRebasing 24 = .ok (.iastore, 1) := by decide +kernel
theorem dX4_addRebasing_25 : decode cX4_addRebasing 25 = .ok (.aload_n 0, 1) := by decide +kernel
theorem dX4_addRebasing_26 : decode cX4_addRebasing 26 = .ok (.getfield 21, 3) := by decide +kernel
theorem dX4_addRebasing_29 : decode cX4_addRebasing 29 = .ok (.aload_n 0, 1) := by decide +kernel
theorem dX4_addRebasing_30 : decode cX4_addRebasing 30 = .ok (.getfield 27, 3) := by decide +kernel
theorem dX4_addRebasing_33 : decode cX4_addRebasing 33 = .ok (.aload_n 0, 1) := by decide +kernel
theorem dX4_addRebasing_34 : decode cX4_addRebasing 34 = .ok (.iload_n 1, 1) := by decide +kernel
theorem dX4_addRebasing_35 : decode cX4_addRebasing 35 = .ok (.invokevirtual 48, 3) := by decide +kernel
theorem dX4_addRebasing_38 : decode cX4_addRebasing 38 = .ok (.iastore, 1) := by decide +kernel
theorem dX4_addRebasing_39 : decode cX4_addRebasing 39 = .ok (.aload_n 0, 1) := by decide +kernel
theorem dX4_addRebasing_40 : decode cX4_addRebasing 40 = .ok (.getfield 24, 3) := by decide +kernel
theorem dX4_addRebasing_43 : decode cX4_addRebasing 43 = .ok (.aload_n 0, 1) := by decide +kernel
theorem dX4_addRebasing_44 : decode cX4_addRebasing 44 = .ok (.getfield 27, 3) := by decide +kernel
theorem dX4_addRebasing_47 : decode cX4_addRebasing 47 = .ok (.iload_n 2, 1) := by decide +kernel
theorem dX4_addRebasing_48 : decode cX4_addRebasing 48 = .ok (.iastore, 1) := by decide +kernel
theorem dX4_addRebasing_49 : decode cX4_addRebasing 49 = .ok (.aload_n 0, 1) := by decide +kernel
theorem dX4_addRebasing_50 : decode cX4_addRebasing 50 = .ok (.dup, 1) := by decide +kernel
theorem dX4_addRebasing_51 : decode cX4_addRebasing 51 = .ok (.getfield 27, 3) := by decide +kernel
theorem dX4_addRebasing_54 : decode cX4_addRebasing 54 = .ok (.iconst 1, 1) := by decide +kernel
theorem dX4_addRebasing_55 : decode cX4_addRebasing 55 = .ok (.iadd, 1) := by decide +kernel
theorem dX4_addRebasing_56 : decode cX4_addRebasing 56 = .ok (.putfield 27, 3) := by decide +kernel
theorem dX4_addRebasing_59 : decode cX4_addRebasing 59 = .ok (.return_, 1) := by decide +kernel
theorem dX4_ratioBetween_0 : decode cX4_ratioBetween 0 = .ok (.aload_n 0, 1) := by decide +kernel
theorem dX4_ratioBetween_1 : decode cX4_ratioBetween 1 = .ok (.iload_n 2, 1) := by decide +kernel
theorem dX4_ratioBetween_2 : decode cX4_ratioBetween 2 = .ok (.invokevirtual 48, 3) := by decide +kernel
theorem dX4_ratioBetween_5 : decode cX4_ratioBetween 5 = .ok (.i2l, 1) := by decide +kernel
theorem dX4_ratioBetween_6 : decode cX4_ratioBetween 6 = .ok (.lstore_n 3, 1) := by decide +kernel
theorem dX4_ratioBetween_7 : decode cX4_ratioBetween 7 = .ok (.aload_n 0, 1) := by decide +kernel
theorem dX4_ratioBetween_8 : decode cX4_ratioBetween 8 = .ok (.iload_n 1, 1) := by decide +kernel
theorem dX4_ratioBetween_9 : decode cX4_ratioBetween 9 = .ok (.invokevirtual 48, 3) := by decide +kernel
theorem dX4_ratioBetween_12 : decode cX4_ratioBetween 12 = .ok (.i2l, 1) := by decide +kernel
theorem dX4_ratioBetween_13 : decode cX4_ratioBetween 13 = .ok (.lstore 5, 2) := by decide +kernel
theorem dX4_ratioBetween_15 : decode cX4_ratioBetween 15 = .ok (.iconst 0, 1) := by decide +kernel
theorem dX4_ratioBetween_16 : decode cX4_ratioBetween 16 = .ok (.istore 7, 2) := by decide +kernel
theorem dX4_ratioBetween_18 : decode cX4_ratioBetween 18 = .ok (.iload 7, 2) := by decide +kernel
theorem dX4_ratioBetween_20 : decode cX4_ratioBetween 20 = .ok (.aload_n 0, 1) := by decide +kernel
theorem dX4_ratioBetween_21 : decode cX4_ratioBetween 21 = .ok (.getfield 27, 3) := by decide +kernel
theorem dX4_ratioBetween_24 : decode cX4_ratioBetween 24 = .ok (.if_icmp .ge 61, 3) := by decide +kernel
theorem dX4_ratioBetween_27 : decode cX4_ratioBetween 27 = .ok (.iload 7, 2) := by decide +kernel
theorem dX4_ratioBetween_29 : decode cX4_ratioBetween 29 = .ok (.iconst 3, 1) := by decide +kernel
theorem dX4_ratioBetween_30 : decode cX4_ratioBetween 30 = .ok (.if_icmp .ge 55, 3) := by decide +kernel
theorem dX4_ratioBetween_33 : decode cX4_ratioBetween 33 = .ok (.aload_n 0, 1) := by decide +kernel
theorem dX4_ratioBetween_34 : decode cX4_ratioBetween 34 = .ok (.getfield 18, 3) := by decide +kernel
theorem dX4_ratioBetween_37 : decode cX4_ratioBetween 37 = .ok (.iload 7, 2) := by decide +kernel
theorem dX4_ratioBetween_39 : decode cX4_ratioBetween 39 = .ok (.iaload, 1) := by decide +kernel
theorem dX4_ratioBetween_40 : decode cX4_ratioBetween 40 = .ok (.iload_n 1, 1) := by decide +kernel
theorem dX4_ratioBetween_41 : decode cX4_ratioBetween 41 = .ok (.if_icmp .lt 38, 3) := by decide +kernel
theorem dX4_ratioBetween_44 : decode cX4_ratioBetween 44 = .ok (.aload_n 0, 1) := by decide +kernel
theorem dX4_ratioBetween_45 : decode cX4_ratioBetween 45 = .ok (.getfield 18, 3) := by decide +kernel
theorem dX4_ratioBetween_48 : decode cX4_ratioBetween 48 = .ok (.iload 7, 2) := by decide +kernel
theorem dX4_ratioBetween_50 : decode cX4_ratioBetween 50 = .ok (.iaload, 1) := by decide +kernel
theorem dX4_ratioBetween_51 : decode cX4_ratioBetween 51 = .ok (.iload_n 2, 1) := by decide +kernel
theorem dX4_ratioBetween_52 : decode cX4_ratioBetween 52 = .ok (.if_icmp .ge 27, 3) := by decide +kernel
theorem dX4_ratioBetween_55 : decode cX4_ratioBetween 55 = .ok (.lload_n 3, 1) := by decide +kernel
theorem dX4_ratioBetween_56 : decode cX4_ratioBetween 56 = .ok (.aload_n 0, 1) := by decide +kernel
theorem dX4_ratioBetween_57 : decode cX4_ratioBetween 57 = .ok (.getfield 21, 3) := by decide +kernel
theorem dX4_ratioBetween_60 : decode cX4_ratioBetween 60 = .ok (.iload 7, 2) := by decide +kernel
theorem dX4_ratioBetween_62 : decode cX4_ratioBetween 62 = .ok (.iaload, 1) := by decide +kernel
theorem dX4_ratioBetween_63 : decode cX4_ratioBetween 63 = .ok (.i2l, 1) := by decide +kernel
theorem dX4_ratioBetween_64 : decode cX4_ratioBetween 64 = .ok (.lmul, 1) := by decide +kernel
theorem dX4_ratioBetween_65 : decode cX4_ratioBetween 65 = .ok (.lstore_n 3, 1) := by decide +kernel
theorem dX4_ratioBetween_66 : decode cX4_ratioBetween 66 = .ok (.lload 5, 2) := by decide +kernel
theorem dX4_ratioBetween_68 : decode cX4_ratioBetween 68 = .ok (.aload_n 0, 1) := by decide +kernel
theorem dX4_ratioBetween_69 : decode cX4_ratioBetween 69 = .ok (.getfield 24, 3) := by decide +kernel
theorem dX4_ratioBetween_72 : decode cX4_ratioBetween 72 = .ok (.iload 7, 2) := by decide +kernel
theorem dX4_ratioBetween_74 : decode cX4_ratioBetween 74 = .ok (.iaload, 1) := by decide +kernel
theorem dX4_ratioBetween_75 : decode cX4_ratioBetween 75 = .ok (.i2l, 1) := by decide +kernel
theorem dX4_ratioBetween_76 : decode cX4_ratioBetween 76 = .ok (.lmul, 1) := by decide +kernel
theorem dX4_ratioBetween_77 : decode cX4_ratioBetween 77 = .ok (.lstore 5, 2) := by decide +kernel
theorem dX4_ratioBetween_79 : decode cX4_ratioBetween 79 = .ok (.iinc 7 1, 3) := by decide +kernel
theorem dX4_ratioBetween_82 : decode cX4_ratioBetween 82 = .ok (.goto (-64), 3) := by decide +kernel
theorem dX4_ratioBetween_85 : decode cX4_ratioBetween 85 = .ok (.lload_n 3, 1) := by decide +kernel
theorem dX4_ratioBetween_86 : decode cX4_ratioBetween 86 = .ok (.lconst 0, 1) := by decide +kernel
theorem dX4_ratioBetween_87 : decode cX4_ratioBetween 87 = .ok (.lcmp, 1) := by decide +kernel
theorem dX4_ratioBetween_88 : decode cX4_ratioBetween 88 = .ok (.ifCond .le 10, 3) := by decide +kernel
theorem dX4_ratioBetween_91 : decode cX4_ratioBetween 91 = .ok (.lload 5, 2) := by decide +kernel
theorem dX4_ratioBetween_93 : decode cX4_ratioBetween 93 = .ok (.lconst 0, 1) := by decide +kernel
theorem dX4_ratioBetween_94 : decode cX4_ratioBetween 94 = .ok (.lcmp, 1) := by decide +kernel
theorem dX4_ratioBetween_95 : decode cX4_ratioBetween 95 = .ok (.ifCond .gt 5, 3) := by decide +kernel
theorem dX4_ratioBetween_98 : decode cX4_ratioBetween 98 = .ok (.iconst 0, 1) := by decide +kernel
theorem dX4_ratioBetween_99 : decode cX4_ratioBetween 99 = .ok (.ireturn, 1) := by decide +kernel
theorem dX4_ratioBetween_100 : decode cX4_ratioBetween 100 = .ok (.lload_n 3, 1) := by decide +kernel
theorem dX4_ratioBetween_101 : decode cX4_ratioBetween 101 = .ok (.ldc2_w 51, 3) := by decide +kernel
theorem dX4_ratioBetween_104 : decode cX4_ratioBetween 104 = .ok (.lmul, 1) := by decide +kernel
theorem dX4_ratioBetween_105 : decode cX4_ratioBetween 105 = .ok (.lload 5, 2) := by decide +kernel
theorem dX4_ratioBetween_107 : decode cX4_ratioBetween 107 = .ok (.ldiv, 1) := by decide +kernel
theorem dX4_ratioBetween_108 : decode cX4_ratioBetween 108 = .ok (.ldc2_w 53, 3) := by decide +kernel
theorem dX4_ratioBetween_111 : decode cX4_ratioBetween 111 = .ok (.invokestatic 55, 3) := by decide +kernel
theorem dX4_ratioBetween_114 : decode cX4_ratioBetween 114 = .ok (.l2i, 1) := by decide +kernel
theorem dX4_ratioBetween_115 : decode cX4_ratioBetween 115 = .ok (.ireturn, 1) := by decide +kernel
theorem dX5_init_0 : decode cX5_init 0 = .ok (.aload_n 0, 1) := by decide +kernel
theorem dX5_init_1 : decode cX5_init 1 = .ok (.invokespecial 3, 3) := by decide +kernel
theorem dX5_init_4 : decode cX5_init 4 = .ok (.aload_n 0, 1) := by decide +kernel
theorem dX5_init_5 : decode cX5_init 5 = .ok (.bipush 30, 2) := by decide +kernel
theorem dX5_init_7 : decode cX5_init 7 = .ok (.anewarray 9, 3) := by decide +kernel
theorem dX5_init_10 : decode cX5_init 10 = .ok (.putfield 11, 3) := by decide +kernel
theorem dX5_init_13 : decode cX5_init 13 = .ok (.iconst 0, 1) := by decide +kernel
theorem dX5_init_14 : decode cX5_init 14 = .ok (.istore_n 1, 1) := by decide +kernel
theorem dX5_init_15 : decode cX5_init 15 = .ok (.iload_n 1, 1) := by decide +kernel
theorem dX5_init_16 : decode cX5_init 16 = .ok (.bipush 30, 2) := by decide +kernel
theorem dX5_init_18 : decode cX5_init 18 = .ok (.if_icmp .ge 22, 3) := by decide +kernel
theorem dX5_init_21 : decode cX5_init 21 = .ok (.aload_n 0, 1) := by decide +kernel
theorem dX5_init_22 : decode cX5_init 22 = .ok (.getfield 11, 3) := by decide +kernel
theorem dX5_init_25 : decode cX5_init 25 = .ok (.iload_n 1, 1) := by decide +kernel
theorem dX5_init_26 : decode cX5_init 26 = .ok (.new 9, 3) := by decide +kernel
theorem dX5_init_29 : decode cX5_init 29 = .ok (.dup, 1) := by decide +kernel
theorem dX5_init_30 : decode cX5_init 30 = .ok (.invokespecial 17, 3) := by decide +kernel
theorem dX5_init_33 : decode cX5_init 33 = .ok (.aastore, 1) := by decide +kernel
theorem dX5_init_34 : decode cX5_init 34 = .ok (.iinc 1 1, 3) := by decide +kernel
theorem dX5_init_37 : decode cX5_init 37 = .ok (.goto (-22), 3) := by decide +kernel
theorem dX5_init_40 : decode cX5_init 40 = .ok (.return_, 1) := by decide +kernel
theorem dX5_rowAt_0 : decode cX5_rowAt 0 = .ok (.iload_n 1, 1) := by decide +kernel
theorem dX5_rowAt_1 : decode cX5_rowAt 1 = .ok (.ifCond .lt 26, 3) := by decide +kernel
theorem dX5_rowAt_4 : decode cX5_rowAt 4 = .ok (.iload_n 1, 1) := by decide +kernel
theorem dX5_rowAt_5 : decode cX5_rowAt 5 = .ok (.aload_n 0, 1) := by decide +kernel
theorem dX5_rowAt_6 : decode cX5_rowAt 6 = .ok (.getfield 18, 3) := by decide +kernel
theorem dX5_rowAt_9 : decode cX5_rowAt 9 = .ok (.if_icmp .ge 18, 3) := by decide +kernel
theorem dX5_rowAt_12 : decode cX5_rowAt 12 = .ok (.iload_n 1, 1) := by decide +kernel
theorem dX5_rowAt_13 : decode cX5_rowAt 13 = .ok (.bipush 30, 2) := by decide +kernel
theorem dX5_rowAt_15 : decode cX5_rowAt 15 = .ok (.if_icmp .ge 12, 3) := by decide +kernel
theorem dX5_rowAt_18 : decode cX5_rowAt 18 = .ok (.aload_n 0, 1) := by decide +kernel
theorem dX5_rowAt_19 : decode cX5_rowAt 19 = .ok (.getfield 11, 3) := by decide +kernel
theorem dX5_rowAt_22 : decode cX5_rowAt 22 = .ok (.iload_n 1, 1) := by decide +kernel
theorem dX5_rowAt_23 : decode cX5_rowAt 23 = .ok (.aaload, 1) := by decide +kernel
theorem dX5_rowAt_24 : decode cX5_rowAt 24 = .ok (.goto 4, 3) := by decide +kernel
theorem dX5_rowAt_27 : decode cX5_rowAt 27 = .ok (.aconst_null, 1) := by decide +kernel
theorem dX5_rowAt_28 : decode cX5_rowAt 28 = .ok (.areturn, 1) := by decide +kernel
theorem dX5_addRow_0 : decode cX5_addRow 0 = .ok (.aload_n 0, 1) := by decide +kernel
theorem dX5_addRow_1 : decode cX5_addRow 1 = .ok (.getfield 18, 3) := by decide +kernel
theorem dX5_addRow_4 : decode cX5_addRow 4 = .ok (.ifCond .lt 12, 3) := by decide +kernel
theorem dX5_addRow_7 : decode cX5_addRow 7 = .ok (.aload_n 0, 1) := by decide +kernel
theorem dX5_addRow_8 : decode cX5_addRow 8 = .ok (.getfield 18, 3) := by decide +kernel
theorem dX5_addRow_11 : decode cX5_addRow 11 = .ok (.bipush 30, 2) := by decide +kernel
theorem dX5_addRow_13 : decode cX5_addRow 13 = .ok (.if_icmp .lt 5, 3) := by decide +kernel
theorem dX5_addRow_16 : decode cX5_addRow 16 = .ok (.aconst_null, 1) := by decide +kernel
theorem dX5_addRow_17 : decode cX5_addRow 17 = .ok (.areturn, 1) := by decide +kernel
theorem dX5_addRow_18 : decode cX5_addRow 18 = .ok (.aload_n 0, 1) := by decide +kernel
theorem dX5_addRow_19 : decode cX5_addRow 19 = .ok (.dup, 1) := by decide +kernel
theorem dX5_addRow_20 : decode cX5_addRow 20 = .ok (.getfield 18, 3) := by decide +kernel
theorem dX5_addRow_23 : decode cX5_addRow 23 = .ok (.iconst 1, 1) := by decide +kernel
theorem dX5_addRow_24 : decode cX5_addRow 24 = .ok (.iadd, 1) := by decide +kernel
theorem dX5_addRow_25 : decode cX5_addRow 25 = .ok (.putfield 18, 3) := by decide +kernel
theorem dX5_addRow_28 : decode cX5_addRow 28 = .ok (.aload_n 0, 1) := by decide +kernel
theorem dX5_addRow_29 : decode cX5_addRow 29 = .ok (.getfield 11, 3) := by decide +kernel
theorem dX5_addRow_32 : decode cX5_addRow 32 = .ok (.aload_n 0, 1) := by decide +kernel
theorem dX5_addRow_33 : decode cX5_addRow 33 = .ok (.getfield 18, 3) := by decide +kernel
theorem dX5_addRow_36 : decode cX5_addRow 36 = .ok (.iconst 1, 1) := by decide +kernel
theorem dX5_addRow_37 : decode cX5_addRow 37 = .ok (.isub, 1) := by decide +kernel
theorem dX5_addRow_38 : decode cX5_addRow 38 = .ok (.aaload, 1) := by decide +kernel
theorem dX5_addRow_39 : decode cX5_addRow 39 = .ok (.areturn, 1) := by decide +kernel
theorem dX5_dropLatest_0 : decode cX5_dropLatest 0 = .ok (.aload_n 0, 1) := by decide +kernel
theorem dX5_dropLatest_1 : decode cX5_dropLatest 1 = .ok (.getfield 18, 3) := by decide +kernel
theorem dX5_dropLatest_4 : decode cX5_dropLatest 4 = .ok (.ifCond .le 13, 3) := by decide +kernel
theorem dX5_dropLatest_7 : decode cX5_dropLatest 7 = .ok (.aload_n 0, 1) := by decide +kernel
theorem dX5_dropLatest_8 : decode cX5_dropLatest 8 = .ok (.dup, 1) := by decide +kernel
theorem dX5_dropLatest_9 : decode cX5_dropLatest 9 = .ok (.getfield 18, 3) := by decide +kernel
theorem dX5_dropLatest_12 : decode cX5_dropLatest 12 = .ok (.iconst 1, 1) := by decide +kernel
theorem dX5_dropLatest_13 : decode cX5_dropLatest 13 = .ok (.isub, 1) := by decide +kernel
theorem dX5_dropLatest_14 : decode cX5_dropLatest 14 = .ok (.putfield 18, 3) := by decide +kernel
theorem dX5_dropLatest_17 : decode cX5_dropLatest 17 = .ok (.return_, 1) := by decide +kernel
theorem dX5_countSettled_0 : decode cX5_countSettled 0 = .ok (.iconst 0, 1) := by decide +kernel
theorem dX5_countSettled_1 : decode cX5_countSettled 1 = .ok (.istore_n 1, 1) := by decide +kernel
theorem dX5_countSettled_2 : decode cX5_countSettled 2 = .ok (.iconst 0, 1) := by decide +kernel
theorem dX5_countSettled_3 : decode cX5_countSettled 3 = .ok (.istore_n 2, 1) := by decide +kernel
theorem dX5_countSettled_4 : decode cX5_countSettled 4 = .ok (.iload_n 2, 1) := by decide +kernel
theorem dX5_countSettled_5 : decode cX5_countSettled 5 = .ok (.aload_n 0, 1) := by decide +kernel
theorem dX5_countSettled_6 : decode cX5_countSettled 6 = .ok (.getfield 18, 3) := by decide +kernel
theorem dX5_countSettled_9 : decode cX5_countSettled 9 = .ok (.if_icmp .ge 30, 3) := by decide +kernel
theorem dX5_countSettled_12 : decode cX5_countSettled 12 = .ok (.iload_n 2, 1) := by decide +kernel
theorem dX5_countSettled_13 : decode cX5_countSettled 13 = .ok (.bipush 30, 2) := by decide +kernel
theorem dX5_countSettled_15 : decode cX5_countSettled 15 = .ok (.if_icmp .ge 24, 3) := by decide +kernel
theorem dX5_countSettled_18 : decode cX5_countSettled 18 = .ok (.aload_n 0, 1) := by decide +kernel
theorem dX5_countSettled_19 : decode cX5_countSettled 19 = .ok (.getfield 11, 3) := by decide +kernel
theorem dX5_countSettled_22 : decode cX5_countSettled 22 = .ok (.iload_n 2, 1) := by decide +kernel
theorem dX5_countSettled_23 : decode cX5_countSettled 23 = .ok (.aaload, 1) := by decide +kernel
theorem dX5_countSettled_24 : decode cX5_countSettled 24 = .ok (.invokevirtual 22, 3) := by decide +kernel
theorem dX5_countSettled_27 : decode cX5_countSettled 27 = .ok (.ifCond .eq 6, 3) := by decide +kernel
theorem dX5_countSettled_30 : decode cX5_countSettled 30 = .ok (.iinc 1 1, 3) := by decide +kernel
theorem dX5_countSettled_33 : decode cX5_countSettled 33 = .ok (.iinc 2 1, 3) := by decide +kernel
theorem dX5_countSettled_36 : decode cX5_countSettled 36 = .ok (.goto (-32), 3) := by decide +kernel
theorem dX5_countSettled_39 : decode cX5_countSettled 39 = .ok (.iload_n 1, 1) := by decide +kernel
theorem dX5_countSettled_40 : decode cX5_countSettled 40 = .ok (.ireturn, 1) := by decide +kernel
theorem dX5_settle_0 : decode cX5_settle 0 = .ok (.iconst 0, 1) := by decide +kernel
theorem dX5_settle_1 : decode cX5_settle 1 = .ok (.istore_n 2, 1) := by decide +kernel
theorem dX5_settle_2 : decode cX5_settle 2 = .ok (.iconst 0, 1) := by decide +kernel
theorem dX5_settle_3 : decode cX5_settle 3 = .ok (.istore_n 3, 1) := by decide +kernel
theorem dX5_settle_4 : decode cX5_settle 4 = .ok (.iload_n 3, 1) := by decide +kernel
theorem dX5_settle_5 : decode cX5_settle 5 = .ok (.aload_n 0, 1) := by decide +kernel
theorem dX5_settle_6 : decode cX5_settle 6 = .ok (.getfield 18, 3) := by decide +kernel
theorem dX5_settle_9 : decode cX5_settle 9 = .ok (.if_icmp .ge 87, 3) := by decide +kernel
theorem dX5_settle_12 : decode cX5_settle 12 = .ok (.iload_n 3, 1) := by decide +kernel
theorem dX5_settle_13 : decode cX5_settle 13 = .ok (.bipush 30, 2) := by decide +kernel
theorem dX5_settle_15 : decode cX5_settle 15 = .ok (.if_icmp .ge 81, 3) := by decide +kernel
theorem dX5_settle_18 : decode cX5_settle 18 = .ok (.aload_n 0, 1) := by decide +kernel
theorem dX5_settle_19 : decode cX5_settle 19 = .ok (.getfield 11, 3) := by decide +kernel
theorem dX5_settle_22 : decode cX5_settle 22 = .ok (.iload_n 3, 1) := by decide +kernel
theorem dX5_settle_23 : decode cX5_settle 23 = .ok (.aaload, 1) := by decide +kernel
theorem dX5_settle_24 : decode cX5_settle 24 = .ok (.astore 4, 2) := by decide +kernel
theorem dX5_settle_26 : decode cX5_settle 26 = .ok (.aload_n 1, 1) := by decide +kernel
theorem dX5_settle_27 : decode cX5_settle 27 = .ok (.aload 4, 2) := by decide +kernel
theorem dX5_settle_29 : decode cX5_settle 29 = .ok (.getfield 26, 3) := by decide +kernel
theorem dX5_settle_32 : decode cX5_settle 32 = .ok (.invokevirtual 29, 3) := by decide +kernel
theorem dX5_settle_35 : decode cX5_settle 35 = .ok (.astore 5, 2) := by decide +kernel
theorem dX5_settle_37 : decode cX5_settle 37 = .ok (.aload 5, 2) := by decide +kernel
theorem dX5_settle_39 : decode cX5_settle 39 = .ok (.ifnull 51, 3) := by decide +kernel
theorem dX5_settle_42 : decode cX5_settle 42 = .ok (.aload 4, 2) := by decide +kernel
theorem dX5_settle_44 : decode cX5_settle 44 = .ok (.invokevirtual 22, 3) := by decide +kernel
theorem dX5_settle_47 : decode cX5_settle 47 = .ok (.ifCond .ne 43, 3) := by decide +kernel
theorem dX5_settle_50 : decode cX5_settle 50 = .ok (.aload_n 1, 1) := by decide +kernel
theorem dX5_settle_51 : decode cX5_settle 51 = .ok (.aload 4, 2) := by decide +kernel
theorem dX5_settle_53 : decode cX5_settle 53 = .ok (.getfield 26, 3) := by decide +kernel
theorem dX5_settle_56 : decode cX5_settle 56 = .ok (.aload 4, 2) := by decide +kernel
theorem dX5_settle_58 : decode cX5_settle 58 = .ok (.getfield 35, 3) := by decide +kernel
theorem dX5_settle_61 : decode cX5_settle 61 = .ok (.invokevirtual 38, 3) := by decide +kernel
theorem dX5_settle_64 : decode cX5_settle 64 = .ok (.ifCond .ne 26, 3) := by decide +kernel
theorem dX5_settle_67 : decode cX5_settle 67 = .ok (.aload 4, 2) := by decide +kernel
theorem dX5_settle_69 : decode cX5_settle 69 = .ok (.aload_n 1, 1) := by decide +kernel
theorem dX5_settle_70 : decode cX5_settle 70 = .ok (.aload 5, 2) := by decide +kernel
theorem dX5_settle_72 : decode cX5_settle 72 = .ok (.aload 4, 2) := by decide +kernel
theorem dX5_settle_74 : decode cX5_settle 74 = .ok (.getfield 35, 3) := by decide +kernel
theorem dX5_settle_77 : decode cX5_settle 77 = .ok (.invokevirtual 42, 3) := by decide +kernel
theorem dX5_settle_80 : decode cX5_settle 80 = .ok (.aload_n 1, 1) := by decide +kernel
theorem dX5_settle_81 : decode cX5_settle 81 = .ok (.getfield 46, 3) := by decide +kernel
theorem dX5_settle_84 : decode cX5_settle 84 = .ok (.invokevirtual 49, 3) := by decide +kernel
theorem dX5_settle_87 : decode cX5_settle 87 = .ok (.iinc 2 1, 3) := by decide +kernel
theorem dX5_settle_90 : decode cX5_settle 90 = .ok (.iinc 3 1, 3) := by decide +kernel
theorem dX5_settle_93 : decode cX5_settle 93 = .ok (.goto (-89), 3) := by decide +kernel
theorem dX5_settle_96 : decode cX5_settle 96 = .ok (.iload_n 2, 1) := by decide +kernel
theorem dX5_settle_97 : decode cX5_settle 97 = .ok (.ireturn, 1) := by decide +kernel
theorem dX5_unsettle_0 : decode cX5_unsettle 0 = .ok (.iconst 0, 1) := by decide +kernel
theorem dX5_unsettle_1 : decode cX5_unsettle 1 = .ok (.istore_n 2, 1) := by decide +kernel
theorem dX5_unsettle_2 : decode cX5_unsettle 2 = .ok (.iload_n 2, 1) := by decide +kernel
theorem dX5_unsettle_3 : decode cX5_unsettle 3 = .ok (.aload_n 0, 1) := by decide +kernel
theorem dX5_unsettle_4 : decode cX5_unsettle 4 = .ok (.getfield 18, 3) := by decide +kernel
theorem dX5_unsettle_7 : decode cX5_unsettle 7 = .ok (.if_icmp .ge 37, 3) := by decide +kernel
theorem dX5_unsettle_10 : decode cX5_unsettle 10 = .ok (.iload_n 2, 1) := by decide +kernel
theorem dX5_unsettle_11 : decode cX5_unsettle 11 = .ok (.bipush 30, 2) := by decide +kernel
theorem dX5_unsettle_13 : decode cX5_unsettle 13 = .ok (.if_icmp .ge 31, 3) := by decide +kernel
theorem dX5_unsettle_16 : decode cX5_unsettle 16 = .ok (.aload_n 0, 1) := by decide +kernel
theorem dX5_unsettle_17 : decode cX5_unsettle 17 = .ok (.getfield 11, 3) := by decide +kernel
theorem dX5_unsettle_20 : decode cX5_unsettle 20 = .ok (.iload_n 2, 1) := by decide +kernel
theorem dX5_unsettle_21 : decode cX5_unsettle 21 = .ok (.aaload, 1) := by decide +kernel
theorem dX5_unsettle_22 : decode cX5_unsettle 22 = .ok (.getfield 53, 3) := by decide +kernel
theorem dX5_unsettle_25 : decode cX5_unsettle 25 = .ok (.iload_n 1, 1) := by decide +kernel
theorem dX5_unsettle_26 : decode cX5_unsettle 26 = .ok (.if_icmp .ne 12, 3) := by decide +kernel
theorem dX5_unsettle_29 : decode cX5_unsettle 29 = .ok (.aload_n 0, 1) := by decide +kernel
theorem dX5_unsettle_30 : decode cX5_unsettle 30 = .ok (.getfield 11, 3) := by decide +kernel
theorem dX5_unsettle_33 : decode cX5_unsettle 33 = .ok (.iload_n 2, 1) := by decide +kernel
theorem dX5_unsettle_34 : decode cX5_unsettle 34 = .ok (.aaload, 1) := by decide +kernel
theorem dX5_unsettle_35 : decode cX5_unsettle 35 = .ok (.invokevirtual 56, 3) := by decide +kernel
theorem dX5_unsettle_38 : decode cX5_unsettle 38 = .ok (.iinc 2 1, 3) := by decide +kernel
theorem dX5_unsettle_41 : decode cX5_unsettle 41 = .ok (.goto (-39), 3) := by decide +kernel
theorem dX5_unsettle_44 : decode cX5_unsettle 44 = .ok (.return_, 1) := by decide +kernel
theorem dX5_billedFrom_0 : decode cX5_billedFrom 0 = .ok (.lconst 0, 1) := by decide +kernel
theorem dX5_billedFrom_1 : decode cX5_billedFrom 1 = .ok (.lstore_n 3, 1) := by decide +kernel
theorem dX5_billedFrom_2 : decode cX5_billedFrom 2 = .ok (.iconst 0, 1) := by decide +kernel
theorem dX5_billedFrom_3 : decode cX5_billedFrom 3 = .ok (.istore 5, 2) := by decide +kernel
theorem dX5_billedFrom_5 : decode cX5_billedFrom 5 = .ok (.iload 5, 2) := by decide +kernel
theorem dX5_billedFrom_7 : decode cX5_billedFrom 7 = .ok (.aload_n 0, 1) := by decide +kernel
theorem dX5_billedFrom_8 : decode cX5_billedFrom 8 = .ok (.getfield 18, 3) := by decide +kernel
theorem dX5_billedFrom_11 : decode cX5_billedFrom 11 = .ok (.if_icmp .ge 57, 3) := by decide +kernel
theorem dX5_billedFrom_14 : decode cX5_billedFrom 14 = .ok (.iload 5, 2) := by decide +kernel
theorem dX5_billedFrom_16 : decode cX5_billedFrom 16 = .ok (.bipush 30, 2) := by decide +kernel
theorem dX5_billedFrom_18 : decode cX5_billedFrom 18 = .ok (.if_icmp .ge 50, 3) := by decide +kernel
theorem dX5_billedFrom_21 : decode cX5_billedFrom 21 = .ok (.aload_n 0, 1) := by decide +kernel
theorem dX5_billedFrom_22 : decode cX5_billedFrom 22 = .ok (.getfield 11, 3) := by decide +kernel
theorem dX5_billedFrom_25 : decode cX5_billedFrom 25 = .ok (.iload 5, 2) := by decide +kernel
theorem dX5_billedFrom_27 : decode cX5_billedFrom 27 = .ok (.aaload, 1) := by decide +kernel
theorem dX5_billedFrom_28 : decode cX5_billedFrom 28 = .ok (.getfield 59, 3) := by decide +kernel
theorem dX5_billedFrom_31 : decode cX5_billedFrom 31 = .ok (.iload_n 1, 1) := by decide +kernel
theorem dX5_billedFrom_32 : decode cX5_billedFrom 32 = .ok (.if_icmp .lt 30, 3) := by decide +kernel
theorem dX5_billedFrom_35 : decode cX5_billedFrom 35 = .ok (.aload_n 0, 1) := by decide +kernel
theorem dX5_billedFrom_36 : decode cX5_billedFrom 36 = .ok (.getfield 11, 3) := by decide +kernel
theorem dX5_billedFrom_39 : decode cX5_billedFrom 39 = .ok (.iload 5, 2) := by decide +kernel
theorem dX5_billedFrom_41 : decode cX5_billedFrom 41 = .ok (.aaload, 1) := by decide +kernel
theorem dX5_billedFrom_42 : decode cX5_billedFrom 42 = .ok (.getfield 59, 3) := by decide +kernel
theorem dX5_billedFrom_45 : decode cX5_billedFrom 45 = .ok (.iload_n 2, 1) := by decide +kernel
theorem dX5_billedFrom_46 : decode cX5_billedFrom 46 = .ok (.if_icmp .gt 16, 3) := by decide +kernel
theorem dX5_billedFrom_49 : decode cX5_billedFrom 49 = .ok (.lload_n 3, 1) := by decide +kernel
theorem dX5_billedFrom_50 : decode cX5_billedFrom 50 = .ok (.aload_n 0, 1) := by decide +kernel
theorem dX5_billedFrom_51 : decode cX5_billedFrom 51 = .ok (.getfield 11, 3) := by decide +kernel
theorem dX5_billedFrom_54 : decode cX5_billedFrom 54 = .ok (.iload 5, 2) := by decide +kernel
theorem dX5_billedFrom_56 : decode cX5_billedFrom 56 = .ok (.aaload, 1) := by decide +kernel
theorem dX5_billedFrom_57 : decode cX5_billedFrom 57 = .ok (.invokevirtual 62, 3) := by decide +kernel
theorem dX5_billedFrom_60 : decode cX5_billedFrom 60 = .ok (.ladd, 1) := by decide +kernel
theorem dX5_billedFrom_61 : decode cX5_billedFrom 61 = .ok (.lstore_n 3, 1) := by decide +kernel
theorem dX5_billedFrom_62 : decode cX5_billedFrom 62 = .ok (.iinc 5 1, 3) := by decide +kernel
theorem dX5_billedFrom_65 : decode cX5_billedFrom 65 = .ok (.goto (-60), 3) := by decide +kernel
theorem dX5_billedFrom_68 : decode cX5_billedFrom 68 = .ok (.lload_n 3, 1) := by decide +kernel
theorem dX5_billedFrom_69 : decode cX5_billedFrom 69 = .ok (.lreturn, 1) := by decide +kernel
theorem dX5_truedFrom_0 : decode cX5_truedFrom 0 = .ok (.lconst 0, 1) := by decide +kernel
theorem dX5_truedFrom_1 : decode cX5_truedFrom 1 = .ok (.lstore_n 3, 1) := by decide +kernel
theorem dX5_truedFrom_2 : decode cX5_truedFrom 2 = .ok (.iconst 0, 1) := by decide +kernel
theorem dX5_truedFrom_3 : decode cX5_truedFrom 3 = .ok (.istore 5, 2) := by decide +kernel
theorem dX5_truedFrom_5 : decode cX5_truedFrom 5 = .ok (.iload 5, 2) := by decide +kernel
theorem dX5_truedFrom_7 : decode cX5_truedFrom 7 = .ok (.aload_n 0, 1) := by decide +kernel
theorem dX5_truedFrom_8 : decode cX5_truedFrom 8 = .ok (.getfield 18, 3) := by decide +kernel
theorem dX5_truedFrom_11 : decode cX5_truedFrom 11 = .ok (.if_icmp .ge 57, 3) := by decide +kernel
theorem dX5_truedFrom_14 : decode cX5_truedFrom 14 = .ok (.iload 5, 2) := by decide +kernel
theorem dX5_truedFrom_16 : decode cX5_truedFrom 16 = .ok (.bipush 30, 2) := by decide +kernel
theorem dX5_truedFrom_18 : decode cX5_truedFrom 18 = .ok (.if_icmp .ge 50, 3) := by decide +kernel
theorem dX5_truedFrom_21 : decode cX5_truedFrom 21 = .ok (.aload_n 0, 1) := by decide +kernel
theorem dX5_truedFrom_22 : decode cX5_truedFrom 22 = .ok (.getfield 11, 3) := by decide +kernel
theorem dX5_truedFrom_25 : decode cX5_truedFrom 25 = .ok (.iload 5, 2) := by decide +kernel
theorem dX5_truedFrom_27 : decode cX5_truedFrom 27 = .ok (.aaload, 1) := by decide +kernel
theorem dX5_truedFrom_28 : decode cX5_truedFrom 28 = .ok (.getfield 53, 3) := by decide +kernel
theorem dX5_truedFrom_31 : decode cX5_truedFrom 31 = .ok (.iload_n 1, 1) := by decide +kernel
theorem dX5_truedFrom_32 : decode cX5_truedFrom 32 = .ok (.if_icmp .lt 30, 3) := by decide +kernel
theorem dX5_truedFrom_35 : decode cX5_truedFrom 35 = .ok (.aload_n 0, 1) := by decide +kernel
theorem dX5_truedFrom_36 : decode cX5_truedFrom 36 = .ok (.getfield 11, 3) := by decide +kernel
theorem dX5_truedFrom_39 : decode cX5_truedFrom 39 = .ok (.iload 5, 2) := by decide +kernel
theorem dX5_truedFrom_41 : decode cX5_truedFrom 41 = .ok (.aaload, 1) := by decide +kernel
theorem dX5_truedFrom_42 : decode cX5_truedFrom 42 = .ok (.getfield 53, 3) := by decide +kernel
theorem dX5_truedFrom_45 : decode cX5_truedFrom 45 = .ok (.iload_n 2, 1) := by decide +kernel
theorem dX5_truedFrom_46 : decode cX5_truedFrom 46 = .ok (.if_icmp .gt 16, 3) := by decide +kernel
theorem dX5_truedFrom_49 : decode cX5_truedFrom 49 = .ok (.lload_n 3, 1) := by decide +kernel
theorem dX5_truedFrom_50 : decode cX5_truedFrom 50 = .ok (.aload_n 0, 1) := by decide +kernel
theorem dX5_truedFrom_51 : decode cX5_truedFrom 51 = .ok (.getfield 11, 3) := by decide +kernel
theorem dX5_truedFrom_54 : decode cX5_truedFrom 54 = .ok (.iload 5, 2) := by decide +kernel
theorem dX5_truedFrom_56 : decode cX5_truedFrom 56 = .ok (.aaload, 1) := by decide +kernel
theorem dX5_truedFrom_57 : decode cX5_truedFrom 57 = .ok (.getfield 66, 3) := by decide +kernel
theorem dX5_truedFrom_60 : decode cX5_truedFrom 60 = .ok (.ladd, 1) := by decide +kernel
theorem dX5_truedFrom_61 : decode cX5_truedFrom 61 = .ok (.lstore_n 3, 1) := by decide +kernel
theorem dX5_truedFrom_62 : decode cX5_truedFrom 62 = .ok (.iinc 5 1, 3) := by decide +kernel
theorem dX5_truedFrom_65 : decode cX5_truedFrom 65 = .ok (.goto (-60), 3) := by decide +kernel
theorem dX5_truedFrom_68 : decode cX5_truedFrom 68 = .ok (.lload_n 3, 1) := by decide +kernel
theorem dX5_truedFrom_69 : decode cX5_truedFrom 69 = .ok (.lreturn, 1) := by decide +kernel
theorem dX6_init_0 : decode cX6_init 0 = .ok (.aload_n 0, 1) := by decide +kernel
theorem dX6_init_1 : decode cX6_init 1 = .ok (.invokespecial 3, 3) := by decide +kernel
theorem dX6_init_4 : decode cX6_init 4 = .ok (.aload_n 0, 1) := by decide +kernel
theorem dX6_init_5 : decode cX6_init 5 = .ok (.sipush 740, 3) := by decide +kernel
theorem dX6_init_8 : decode cX6_init 8 = .ok (.newarray .byte, 2) := by decide +kernel
theorem dX6_init_10 : decode cX6_init 10 = .ok (.putfield 9, 3) := by decide +kernel
theorem dX6_init_13 : decode cX6_init 13 = .ok (.return_, 1) := by decide +kernel
theorem dX6_append_0 : decode cX6_append 0 = .ok (.bipush 24, 2) := by decide +kernel
theorem dX6_append_2 : decode cX6_append 2 = .ok (.istore_n 2, 1) := by decide +kernel
theorem dX6_append_3 : decode cX6_append 3 = .ok (.iload_n 2, 1) := by decide +kernel
theorem dX6_append_4 : decode cX6_append 4 = .ok (.ifCond .lt 49, 3) := by decide +kernel
theorem dX6_append_7 : decode cX6_append 7 = .ok (.aload_n 0, 1) := by decide +kernel
theorem dX6_append_8 : decode cX6_append 8 = .ok (.getfield 15, 3) := by decide +kernel
theorem dX6_append_11 : decode cX6_append 11 = .ok (.ifCond .lt 36, 3) := by decide +kernel
theorem dX6_append_14 : decode cX6_append 14 = .ok (.aload_n 0, 1) := by decide +kernel
theorem dX6_append_15 : decode cX6_append 15 = .ok (.getfield 15, 3) := by decide +kernel
theorem dX6_append_18 : decode cX6_append 18 = .ok (.sipush 740, 3) := by decide +kernel
theorem dX6_append_21 : decode cX6_append 21 = .ok (.if_icmp .ge 26, 3) := by decide +kernel
theorem dX6_append_24 : decode cX6_append 24 = .ok (.aload_n 0, 1) := by decide +kernel
theorem dX6_append_25 : decode cX6_append 25 = .ok (.getfield 9, 3) := by decide +kernel
theorem dX6_append_28 : decode cX6_append 28 = .ok (.aload_n 0, 1) := by decide +kernel
theorem dX6_append_29 : decode cX6_append 29 = .ok (.getfield 15, 3) := by decide +kernel
theorem dX6_append_32 : decode cX6_append 32 = .ok (.iload_n 1, 1) := by decide +kernel
theorem dX6_append_33 : decode cX6_append 33 = .ok (.iload_n 2, 1) := by decide +kernel
theorem dX6_append_34 : decode cX6_append 34 = .ok (.ishr, 1) := by decide +kernel
theorem dX6_append_35 : decode cX6_append 35 = .ok (.i2b, 1) := by decide +kernel
theorem dX6_append_36 : decode cX6_append 36 = .ok (.bastore, 1) := by decide +kernel
theorem dX6_append_37 : decode cX6_append 37 = .ok (.aload_n 0, 1) := by decide +kernel
theorem dX6_append_38 : decode cX6_append 38 = .ok (.dup, 1) := by decide +kernel
theorem dX6_append_39 : decode cX6_append 39 = .ok (.getfield 15, 3) := by decide +kernel
theorem dX6_append_42 : decode cX6_append 42 = .ok (.iconst 1, 1) := by decide +kernel
theorem dX6_append_43 : decode cX6_append 43 = .ok (.iadd, 1) := by decide +kernel
theorem dX6_append_44 : decode cX6_append 44 = .ok (.putfield 15, 3) := by decide +kernel
theorem dX6_append_47 : decode cX6_append 47 = .ok (.iinc 2 (-8), 3) := by decide +kernel
theorem dX6_append_50 : decode cX6_append 50 = .ok (.goto (-47), 3) := by decide +kernel
theorem dX6_append_53 : decode cX6_append 53 = .ok (.return_, 1) := by decide +kernel
theorem dX6_begin_0 : decode cX6_begin 0 = .ok (.aload_n 0, 1) := by decide +kernel
theorem dX6_begin_1 : decode cX6_begin 1 = .ok (.iconst 0, 1) := by decide +kernel
theorem dX6_begin_2 : decode cX6_begin 2 = .ok (.putfield 19, 3) := by decide +kernel
theorem dX6_begin_5 : decode cX6_begin 5 = .ok (.aload_n 0, 1) := by decide +kernel
theorem dX6_begin_6 : decode cX6_begin 6 = .ok (.invokevirtual 22, 3) := by decide +kernel
theorem dX6_begin_9 : decode cX6_begin 9 = .ok (.return_, 1) := by decide +kernel
theorem dX6_byteAt_0 : decode cX6_byteAt 0 = .ok (.iload_n 1, 1) := by decide +kernel
theorem dX6_byteAt_1 : decode cX6_byteAt 1 = .ok (.ifCond .lt 27, 3) := by decide +kernel
theorem dX6_byteAt_4 : decode cX6_byteAt 4 = .ok (.iload_n 1, 1) := by decide +kernel
theorem dX6_byteAt_5 : decode cX6_byteAt 5 = .ok (.aload_n 0, 1) := by decide +kernel
theorem dX6_byteAt_6 : decode cX6_byteAt 6 = .ok (.getfield 15, 3) := by decide +kernel
theorem dX6_byteAt_9 : decode cX6_byteAt 9 = .ok (.if_icmp .ge 19, 3) := by decide +kernel
theorem dX6_byteAt_12 : decode cX6_byteAt 12 = .ok (.iload_n 1, 1) := by decide +kernel
theorem dX6_byteAt_13 : decode cX6_byteAt 13 = .ok (.sipush 740, 3) := by decide +kernel
theorem dX6_byteAt_16 : decode cX6_byteAt 16 = .ok (.if_icmp .ge 12, 3) := by decide +kernel
theorem dX6_byteAt_19 : decode cX6_byteAt 19 = .ok (.aload_n 0, 1) := by decide +kernel
theorem dX6_byteAt_20 : decode cX6_byteAt 20 = .ok (.getfield 9, 3) := by decide +kernel
theorem dX6_byteAt_23 : decode cX6_byteAt 23 = .ok (.iload_n 1, 1) := by decide +kernel
theorem dX6_byteAt_24 : decode cX6_byteAt 24 = .ok (.baload, 1) := by decide +kernel
theorem dX6_byteAt_25 : decode cX6_byteAt 25 = .ok (.goto 4, 3) := by decide +kernel
theorem dX6_byteAt_28 : decode cX6_byteAt 28 = .ok (.iconst 0, 1) := by decide +kernel
theorem dX6_byteAt_29 : decode cX6_byteAt 29 = .ok (.ireturn, 1) := by decide +kernel
theorem dX6_advance_0 : decode cX6_advance 0 = .ok (.aload_n 0, 1) := by decide +kernel
theorem dX6_advance_1 : decode cX6_advance 1 = .ok (.aload_n 0, 1) := by decide +kernel
theorem dX6_advance_2 : decode cX6_advance 2 = .ok (.getfield 19, 3) := by decide +kernel
theorem dX6_advance_5 : decode cX6_advance 5 = .ok (.putfield 25, 3) := by decide +kernel
theorem dX6_advance_8 : decode cX6_advance 8 = .ok (.aload_n 0, 1) := by decide +kernel
theorem dX6_advance_9 : decode cX6_advance 9 = .ok (.getfield 25, 3) := by decide +kernel
theorem dX6_advance_12 : decode cX6_advance 12 = .ok (.aload_n 0, 1) := by decide +kernel
theorem dX6_advance_13 : decode cX6_advance 13 = .ok (.getfield 15, 3) := by decide +kernel
theorem dX6_advance_16 : decode cX6_advance 16 = .ok (.if_icmp .ge 30, 3) := by decide +kernel
theorem dX6_advance_19 : decode cX6_advance 19 = .ok (.aload_n 0, 1) := by decide +kernel
theorem dX6_advance_20 : decode cX6_advance 20 = .ok (.aload_n 0, 1) := by decide +kernel
theorem dX6_advance_21 : decode cX6_advance 21 = .ok (.getfield 25, 3) := by decide +kernel
theorem dX6_advance_24 : decode cX6_advance 24 = .ok (.invokevirtual 28, 3) := by decide +kernel
theorem dX6_advance_27 : decode cX6_advance 27 = .ok (.invokestatic 32, 3) := by decide +kernel
theorem dX6_advance_30 : decode cX6_advance 30 = .ok (.ifCond .eq 16, 3) := by decide +kernel
theorem dX6_advance_33 : decode cX6_advance 33 = .ok (.aload_n 0, 1) := by decide +kernel
theorem dX6_advance_34 : decode cX6_advance 34 = .ok (.dup, 1) := by decide +kernel
theorem dX6_advance_35 : decode cX6_advance 35 = .ok (.getfield 25, 3) := by decide +kernel
theorem dX6_advance_38 : decode cX6_advance 38 = .ok (.iconst 1, 1) := by decide +kernel
theorem dX6_advance_39 : decode cX6_advance 39 = .ok (.iadd, 1) := by decide +kernel
theorem dX6_advance_40 : decode cX6_advance 40 = .ok (.putfield 25, 3) := by decide +kernel
theorem dX6_advance_43 : decode cX6_advance 43 = .ok (.goto (-35), 3) := by decide +kernel
theorem dX6_advance_46 : decode cX6_advance 46 = .ok (.aload_n 0, 1) := by decide +kernel
theorem dX6_advance_47 : decode cX6_advance 47 = .ok (.getfield 25, 3) := by decide +kernel
theorem dX6_advance_50 : decode cX6_advance 50 = .ok (.sipush 700, 3) := by decide +kernel
theorem dX6_advance_53 : decode cX6_advance 53 = .ok (.if_icmp .lt 28, 3) := by decide +kernel
theorem dX6_advance_56 : decode cX6_advance 56 = .ok (.aload_n 0, 1) := by decide +kernel
theorem dX6_advance_57 : decode cX6_advance 57 = .ok (.getfield 15, 3) := by decide +kernel
theorem dX6_advance_60 : decode cX6_advance 60 = .ok (.sipush 700, 3) := by decide +kernel
theorem dX6_advance_63 : decode cX6_advance 63 = .ok (.if_icmp .le 18, 3) := by decide +kernel
theorem dX6_advance_66 : decode cX6_advance 66 = .ok (.aload_n 0, 1) := by decide +kernel
theorem dX6_advance_67 : decode cX6_advance 67 = .ok (.sipush 700, 3) := by decide +kernel
theorem dX6_advance_70 : decode cX6_advance 70 = .ok (.putfield 25, 3) := by decide +kernel
theorem dX6_advance_73 : decode cX6_advance 73 = .ok (.aload_n 0, 1) := by decide +kernel
theorem dX6_advance_74 : decode cX6_advance 74 = .ok (.iconst 0, 1) := by decide +kernel
theorem dX6_advance_75 : decode cX6_advance 75 = .ok (.putfield 36, 3) := by decide +kernel
theorem dX6_advance_78 : decode cX6_advance 78 = .ok (.goto 26, 3) := by decide +kernel
theorem dX6_advance_81 : decode cX6_advance 81 = .ok (.aload_n 0, 1) := by decide +kernel
theorem dX6_advance_82 : decode cX6_advance 82 = .ok (.getfield 25, 3) := by decide +kernel
theorem dX6_advance_85 : decode cX6_advance 85 = .ok (.aload_n 0, 1) := by decide +kernel
theorem dX6_advance_86 : decode cX6_advance 86 = .ok (.getfield 15, 3) := by decide +kernel
theorem dX6_advance_89 : decode cX6_advance 89 = .ok (.if_icmp .lt 11, 3) := by decide +kernel
theorem dX6_advance_92 : decode cX6_advance 92 = .ok (.aload_n 0, 1) := by decide +kernel
theorem dX6_advance_93 : decode cX6_advance 93 = .ok (.iconst 4, 1) := by decide +kernel
theorem dX6_advance_94 : decode cX6_advance 94 = .ok (.putfield 36, 3) := by decide +kernel
theorem dX6_advance_97 : decode cX6_advance 97 = .ok (.goto 7, 3) := by decide +kernel
theorem dX6_advance_100 : decode cX6_advance 100 = .ok (.aload_n 0, 1) := by decide +kernel
theorem dX6_advance_101 : decode cX6_advance 101 = .ok (.invokevirtual 39, 3) := by decide +kernel
theorem dX6_advance_104 : decode cX6_advance 104 = .ok (.return_, 1) := by decide +kernel
theorem dX6_cutToken_0 : decode cX6_cutToken 0 = .ok (.aload_n 0, 1) := by decide +kernel
theorem dX6_cutToken_1 : decode cX6_cutToken 1 = .ok (.aload_n 0, 1) := by decide +kernel
theorem dX6_cutToken_2 : decode cX6_cutToken 2 = .ok (.getfield 25, 3) := by decide +kernel
theorem dX6_cutToken_5 : decode cX6_cutToken 5 = .ok (.invokevirtual 28, 3) := by decide +kernel
theorem dX6_cutToken_8 : decode cX6_cutToken 8 = .ok (.istore_n 1, 1) := by decide +kernel
theorem dX6_cutToken_9 : decode cX6_cutToken 9 = .ok (.aload_n 0, 1) := by decide +kernel
theorem dX6_cutToken_10 : decode cX6_cutToken 10 = .ok (.aload_n 0, 1) := by decide +kernel
theorem dX6_cutToken_11 : decode cX6_cutToken 11 = .ok (.getfield 25, 3) := by decide +kernel
theorem dX6_cutToken_14 : decode cX6_cutToken 14 = .ok (.iconst 1, 1) := by decide +kernel
theorem dX6_cutToken_15 : decode cX6_cutToken 15 = .ok (.iadd, 1) := by decide +kernel
theorem dX6_cutToken_16 : decode cX6_cutToken 16 = .ok (.putfield 19, 3) := by decide +kernel
theorem dX6_cutToken_19 : decode cX6_cutToken 19 = .ok (.iload_n 1, 1) := by decide +kernel
theorem dX6_cutToken_20 : decode cX6_cutToken 20 = .ok (.bipush 59, 2) := by decide +kernel
theorem dX6_cutToken_22 : decode cX6_cutToken 22 = .ok (.if_icmp .eq 15, 3) := by decide +kernel
theorem dX6_cutToken_25 : decode cX6_cutToken 25 = .ok (.iload_n 1, 1) := by decide +kernel
theorem dX6_cutToken_26 : decode cX6_cutToken 26 = .ok (.bipush 61, 2) := by decide +kernel
theorem dX6_cutToken_28 : decode cX6_cutToken 28 = .ok (.if_icmp .eq 9, 3) := by decide +kernel
theorem dX6_cutToken_31 : decode cX6_cutToken 31 = .ok (.iload_n 1, 1) := by decide +kernel
theorem dX6_cutToken_32 : decode cX6_cutToken 32 = .ok (.bipush 43, 2) := by decide +kernel
theorem dX6_cutToken_34 : decode cX6_cutToken 34 = .ok (.if_icmp .ne 9, 3) := by decide +kernel
theorem dX6_cutToken_37 : decode cX6_cutToken 37 = .ok (.aload_n 0, 1) := by decide +kernel
theorem dX6_cutToken_38 : decode cX6_cutToken 38 = .ok (.iconst 3, 1) := by decide +kernel
theorem dX6_cutToken_39 : decode cX6_cutToken 39 = .ok (.putfield 36, 3) := by decide +kernel
theorem dX6_cutToken_42 : decode cX6_cutToken 42 = .ok (.return_, 1) := by decide +kernel
theorem dX6_cutToken_43 : decode cX6_cutToken 43 = .ok (.iconst 0, 1) := by decide +kernel
theorem dX6_cutToken_44 : decode cX6_cutToken 44 = .ok (.istore_n 2, 1) := by decide +kernel
theorem dX6_cutToken_45 : decode cX6_cutToken 45 = .ok (.iconst 0, 1) := by decide +kernel
theorem dX6_cutToken_46 : decode cX6_cutToken 46 = .ok (.istore_n 3, 1) := by decide +kernel
theorem dX6_cutToken_47 : decode cX6_cutToken 47 = .ok (.aload_n 0, 1) := by decide +kernel
theorem dX6_cutToken_48 : decode cX6_cutToken 48 = .ok (.iconst 0, 1) := by decide +kernel
theorem dX6_cutToken_49 : decode cX6_cutToken 49 = .ok (.putfield 42, 3) := by decide +kernel
theorem dX6_cutToken_52 : decode cX6_cutToken 52 = .ok (.aload_n 0, 1) := by decide +kernel
theorem dX6_cutToken_53 : decode cX6_cutToken 53 = .ok (.getfield 25, 3) := by decide +kernel
theorem dX6_cutToken_56 : decode cX6_cutToken 56 = .ok (.istore 4, 2) := by decide +kernel
theorem dX6_cutToken_58 : decode cX6_cutToken 58 = .ok (.iload 4, 2) := by decide +kernel
theorem dX6_cutToken_60 : decode cX6_cutToken 60 = .ok (.aload_n 0, 1) := by decide +kernel
theorem dX6_cutToken_61 : decode cX6_cutToken 61 = .ok (.getfield 15, 3) := by decide +kernel
theorem dX6_cutToken_64 : decode cX6_cutToken 64 = .ok (.if_icmp .ge 71, 3) := by decide +kernel
theorem dX6_cutToken_67 : decode cX6_cutToken 67 = .ok (.aload_n 0, 1) := by decide +kernel
theorem dX6_cutToken_68 : decode cX6_cutToken 68 = .ok (.iload 4, 2) := by decide +kernel
theorem dX6_cutToken_70 : decode cX6_cutToken 70 = .ok (.invokevirtual 28, 3) := by decide +kernel
theorem dX6_cutToken_73 : decode cX6_cutToken 73 = .ok (.istore 5, 2) := by decide +kernel
theorem dX6_cutToken_75 : decode cX6_cutToken 75 = .ok (.iload 5, 2) := by decide +kernel
theorem dX6_cutToken_77 : decode cX6_cutToken 77 = .ok (.bipush 97, 2) := by decide +kernel
theorem dX6_cutToken_79 : decode cX6_cutToken 79 = .ok (.if_icmp .lt 16, 3) := by decide +kernel
theorem dX6_cutToken_82 : decode cX6_cutToken 82 = .ok (.iload 5, 2) := by decide +kernel
theorem dX6_cutToken_84 : decode cX6_cutToken 84 = .ok (.bipush 122, 2) := by decide +kernel
theorem dX6_cutToken_86 : decode cX6_cutToken 86 = .ok (.if_icmp .gt 9, 3) := by decide +kernel
theorem dX6_cutToken_89 : decode cX6_cutToken 89 = .ok (.iinc 2 1, 3) := by decide +kernel
theorem dX6_cutToken_92 : decode cX6_cutToken 92 = .ok (.goto 37, 3) := by decide +kernel
theorem dX6_cutToken_95 : decode cX6_cutToken 95 = .ok (.iload 5, 2) := by decide +kernel
theorem dX6_cutToken_97 : decode cX6_cutToken 97 = .ok (.bipush 48, 2) := by decide +kernel
theorem dX6_cutToken_99 : decode cX6_cutToken 99 = .ok (.if_icmp .lt 36, 3) := by decide +kernel
theorem dX6_cutToken_102 : decode cX6_cutToken 102 = .ok (.iload 5, 2) := by decide +kernel
theorem dX6_cutToken_104 : decode cX6_cutToken 104 = .ok (.bipush 57, 2) := by decide +kernel
theorem dX6_cutToken_106 : decode cX6_cutToken 106 = .ok (.if_icmp .gt 29, 3) := by decide +kernel
theorem dX6_cutToken_109 : decode cX6_cutToken 109 = .ok (.iinc 3 1, 3) := by decide +kernel
theorem dX6_cutToken_112 : decode cX6_cutToken 112 = .ok (.aload_n 0, 1) := by decide +kernel
theorem dX6_cutToken_113 : decode cX6_cutToken 113 = .ok (.aload_n 0, 1) := by decide +kernel
theorem dX6_cutToken_114 : decode cX6_cutToken 114 = .ok (.getfield 42, 3) := by decide +kernel
theorem dX6_cutToken_117 : decode cX6_cutToken 117 = .ok (.bipush 10, 2) := by decide +kernel
theorem dX6_cutToken_119 : decode cX6_cutToken 119 = .ok (.imul, 1) := by decide +kernel
theorem dX6_cutToken_120 : decode cX6_cutToken 120 = .ok (.iload 5, 2) := by decide +kernel
theorem dX6_cutToken_122 : decode cX6_cutToken 122 = .ok (.iadd, 1) := by decide +kernel
theorem dX6_cutToken_123 : decode cX6_cutToken 123 = .ok (.bipush 48, 2) := by decide +kernel
theorem dX6_cutToken_125 : decode cX6_cutToken 125 = .ok (.isub, 1) := by decide +kernel
theorem dX6_cutToken_126 : decode cX6_cutToken 126 = .ok (.putfield 42, 3) := by decide +kernel
theorem dX6_cutToken_129 : decode cX6_cutToken 129 = .ok (.iinc 4 1, 3) := by decide +kernel
theorem dX6_cutToken_132 : decode cX6_cutToken 132 = .ok (.goto (-74), 3) := by decide +kernel
theorem dX6_cutToken_135 : decode cX6_cutToken 135 = .ok (.aload_n 0, 1) := by decide +kernel
theorem dX6_cutToken_136 : decode cX6_cutToken 136 = .ok (.aload_n 0, 1) := by decide +kernel
theorem dX6_cutToken_137 : decode cX6_cutToken 137 = .ok (.getfield 19, 3) := by decide +kernel
theorem dX6_cutToken_140 : decode cX6_cutToken 140 = .ok (.aload_n 0, 1) := by decide +kernel
theorem dX6_cutToken_141 : decode cX6_cutToken 141 = .ok (.getfield 25, 3) := by decide +kernel
theorem dX6_cutToken_144 : decode cX6_cutToken 144 = .ok (.iload_n 2, 1) := by decide +kernel
theorem dX6_cutToken_145 : decode cX6_cutToken 145 = .ok (.iadd, 1) := by decide +kernel
theorem dX6_cutToken_146 : decode cX6_cutToken 146 = .ok (.iload_n 3, 1) := by decide +kernel
theorem dX6_cutToken_147 : decode cX6_cutToken 147 = .ok (.iadd, 1) := by decide +kernel
theorem dX6_cutToken_148 : decode cX6_cutToken 148 = .ok (.invokestatic 45, 3) := by decide +kernel
theorem dX6_cutToken_151 : decode cX6_cutToken 151 = .ok (.putfield 19, 3) := by decide +kernel
theorem dX6_cutToken_154 : decode cX6_cutToken 154 = .ok (.iload_n 3, 1) := by decide +kernel
theorem dX6_cutToken_155 : decode cX6_cutToken 155 = .ok (.ifCond .ne 18, 3) := by decide +kernel
theorem dX6_cutToken_158 : decode cX6_cutToken 158 = .ok (.iload_n 2, 1) := by decide +kernel
theorem dX6_cutToken_159 : decode cX6_cutToken 159 = .ok (.iconst 1, 1) := by decide +kernel
theorem dX6_cutToken_160 : decode cX6_cutToken 160 = .ok (.if_icmp .lt 13, 3) := by decide +kernel
theorem dX6_cutToken_163 : decode cX6_cutToken 163 = .ok (.iload_n 2, 1) := by decide +kernel
theorem dX6_cutToken_164 : decode cX6_cutToken 164 = .ok (.bipush 8, 2) := by decide +kernel
theorem dX6_cutToken_166 : decode cX6_cutToken 166 = .ok (.if_icmp .gt 7, 3) := by decide +kernel
theorem dX6_cutToken_169 : decode cX6_cutToken 169 = .ok (.iconst 1, 1) := by decide +kernel
theorem dX6_cutToken_170 : decode cX6_cutToken 170 = .ok (.goto 4, 3) := by decide +kernel
theorem dX6_cutToken_173 : decode cX6_cutToken 173 = .ok (.iconst 0, 1) := by decide +kernel
theorem dX6_cutToken_174 : decode cX6_cutToken 174 = .ok (.istore 4, 2) := by decide +kernel
theorem dX6_cutToken_176 : decode cX6_cutToken 176 = .ok (.iload_n 2, 1) := by decide +kernel
theorem dX6_cutToken_177 : decode cX6_cutToken 177 = .ok (.ifCond .ne 17, 3) := by decide +kernel
theorem dX6_cutToken_180 : decode cX6_cutToken 180 = .ok (.iload_n 3, 1) := by decide +kernel
theorem dX6_cutToken_181 : decode cX6_cutToken 181 = .ok (.iconst 1, 1) := by decide +kernel
theorem dX6_cutToken_182 : decode cX6_cutToken 182 = .ok (.if_icmp .lt 12, 3) := by decide +kernel
theorem dX6_cutToken_185 : decode cX6_cutToken 185 = .ok (.iload_n 3, 1) := by decide +kernel
theorem dX6_cutToken_186 : decode cX6_cutToken 186 = .ok (.iconst 4, 1) := by decide +kernel
theorem dX6_cutToken_187 : decode cX6_cutToken 187 = .ok (.if_icmp .gt 7, 3) := by decide +kernel
theorem dX6_cutToken_190 : decode cX6_cutToken 190 = .ok (.iconst 1, 1) := by decide +kernel
theorem dX6_cutToken_191 : decode cX6_cutToken 191 = .ok (.goto 4, 3) := by decide +kernel
theorem dX6_cutToken_194 : decode cX6_cutToken 194 = .ok (.iconst 0, 1) := by decide +kernel
theorem dX6_cutToken_195 : decode cX6_cutToken 195 = .ok (.istore 5, 2) := by decide +kernel
theorem dX6_cutToken_197 : decode cX6_cutToken 197 = .ok (.aload_n 0, 1) := by decide +kernel
theorem dX6_cutToken_198 : decode cX6_cutToken 198 = .ok (.iload 4, 2) := by decide +kernel
theorem dX6_cutToken_200 : decode cX6_cutToken 200 = .ok (.ifCond .eq 7, 3) := by decide +kernel
theorem dX6_cutToken_203 : decode cX6_cutToken 203 = .ok (.iconst 1, 1) := by decide +kernel
theorem dX6_cutToken_204 : decode cX6_cutToken 204 = .ok (.goto 13, 3) := by decide +kernel
theorem dX6_cutToken_207 : decode cX6_cutToken 207 = .ok (.iload 5, 2) := by decide +kernel
theorem dX6_cutToken_209 : decode cX6_cutToken 209 = .ok (.ifCond .eq 7, 3) := by decide +kernel
theorem dX6_cutToken_212 : decode cX6_cutToken 212 = .ok (.iconst 2, 1) := by decide +kernel
theorem dX6_cutToken_213 : decode cX6_cutToken 213 = .ok (.goto 4, 3) := by decide +kernel
theorem dX6_cutToken_216 : decode cX6_cutToken 216 = .ok (.iconst 0, 1) := by decide +kernel
theorem dX6_cutToken_217 : decode cX6_cutToken 217 = .ok (.putfield 36, 3) := by decide +kernel
theorem dX6_cutToken_220 : decode cX6_cutToken 220 = .ok (.return_, 1) := by decide +kernel
theorem dX6_isSign_0 : decode cX6_isSign 0 = .ok (.aload_n 0, 1) := by decide +kernel
theorem dX6_isSign_1 : decode cX6_isSign 1 = .ok (.getfield 36, 3) := by decide +kernel
theorem dX6_isSign_4 : decode cX6_isSign 4 = .ok (.iconst 3, 1) := by decide +kernel
theorem dX6_isSign_5 : decode cX6_isSign 5 = .ok (.if_icmp .ne 19, 3) := by decide +kernel
theorem dX6_isSign_8 : decode cX6_isSign 8 = .ok (.aload_n 0, 1) := by decide +kernel
theorem dX6_isSign_9 : decode cX6_isSign 9 = .ok (.aload_n 0, 1) := by decide +kernel
theorem dX6_isSign_10 : decode cX6_isSign 10 = .ok (.getfield 25, 3) := by decide +kernel
theorem dX6_isSign_13 : decode cX6_isSign 13 = .ok (.invokevirtual 28, 3) := by decide +kernel
theorem dX6_isSign_16 : decode cX6_isSign 16 = .ok (.iload_n 1, 1) := by decide +kernel
theorem dX6_isSign_17 : decode cX6_isSign 17 = .ok (.if_icmp .ne 7, 3) := by decide +kernel
theorem dX6_isSign_20 : decode cX6_isSign 20 = .ok (.iconst 1, 1) := by decide +kernel
theorem dX6_isSign_21 : decode cX6_isSign 21 = .ok (.goto 4, 3) := by decide +kernel
theorem dX6_isSign_24 : decode cX6_isSign 24 = .ok (.iconst 0, 1) := by decide +kernel
theorem dX6_isSign_25 : decode cX6_isSign 25 = .ok (.ireturn, 1) := by decide +kernel
theorem dX6_isWord_0 : decode cX6_isWord 0 = .ok (.aload_n 0, 1) := by decide +kernel
theorem dX6_isWord_1 : decode cX6_isWord 1 = .ok (.getfield 36, 3) := by decide +kernel
theorem dX6_isWord_4 : decode cX6_isWord 4 = .ok (.iconst 1, 1) := by decide +kernel
theorem dX6_isWord_5 : decode cX6_isWord 5 = .ok (.if_icmp .ne 19, 3) := by decide +kernel
theorem dX6_isWord_8 : decode cX6_isWord 8 = .ok (.aload_n 0, 1) := by decide +kernel
theorem dX6_isWord_9 : decode cX6_isWord 9 = .ok (.getfield 19, 3) := by decide +kernel
theorem dX6_isWord_12 : decode cX6_isWord 12 = .ok (.aload_n 0, 1) := by decide +kernel
theorem dX6_isWord_13 : decode cX6_isWord 13 = .ok (.getfield 25, 3) := by decide +kernel
theorem dX6_isWord_16 : decode cX6_isWord 16 = .ok (.isub, 1) := by decide +kernel
theorem dX6_isWord_17 : decode cX6_isWord 17 = .ok (.aload_n 1, 1) := by decide +kernel
theorem dX6_isWord_18 : decode cX6_isWord 18 = .ok (.invokevirtual 51, 3) := by decide +kernel
theorem dX6_isWord_21 : decode cX6_isWord 21 = .ok (.if_icmp .eq 5, 3) := by decide +kernel
theorem dX6_isWord_24 : decode cX6_isWord 24 = .ok (.iconst 0, 1) := by decide +kernel
theorem dX6_isWord_25 : decode cX6_isWord 25 = .ok (.ireturn, 1) := by decide +kernel
theorem dX6_isWord_26 : decode cX6_isWord 26 = .ok (.iconst 0, 1) := by decide +kernel
theorem dX6_isWord_27 : decode cX6_isWord 27 = .ok (.istore_n 2, 1) := by decide +kernel
theorem dX6_isWord_28 : decode cX6_isWord 28 = .ok (.iload_n 2, 1) := by decide +kernel
theorem dX6_isWord_29 : decode cX6_isWord 29 = .ok (.aload_n 1, 1) := by decide +kernel
theorem dX6_isWord_30 : decode cX6_isWord 30 = .ok (.invokevirtual 51, 3) := by decide +kernel
theorem dX6_isWord_33 : decode cX6_isWord 33 = .ok (.if_icmp .ge 29, 3) := by decide +kernel
theorem dX6_isWord_36 : decode cX6_isWord 36 = .ok (.aload_n 0, 1) := by decide +kernel
theorem dX6_isWord_37 : decode cX6_isWord 37 = .ok (.aload_n 0, 1) := by decide +kernel
theorem dX6_isWord_38 : decode cX6_isWord 38 = .ok (.getfield 25, 3) := by decide +kernel
theorem dX6_isWord_41 : decode cX6_isWord 41 = .ok (.iload_n 2, 1) := by decide +kernel
theorem dX6_isWord_42 : decode cX6_isWord 42 = .ok (.iadd, 1) := by decide +kernel
theorem dX6_isWord_43 : decode cX6_isWord 43 = .ok (.invokevirtual 28, 3) := by decide +kernel
theorem dX6_isWord_46 : decode cX6_isWord 46 = .ok (.aload_n 1, 1) := by decide +kernel
theorem dX6_isWord_47 : decode cX6_isWord 47 = .ok (.iload_n 2, 1) := by decide +kernel
theorem dX6_isWord_48 : decode cX6_isWord 48 = .ok (.invokevirtual 56, 3) := by decide +kernel
theorem dX6_isWord_51 : decode cX6_isWord 51 = .ok (.if_icmp .eq 5, 3) := by decide +kernel
theorem dX6_isWord_54 : decode cX6_isWord 54 = .ok (.iconst 0, 1) := by decide +kernel
theorem dX6_isWord_55 : decode cX6_isWord 55 = .ok (.ireturn, 1) := by decide +kernel
theorem dX6_isWord_56 : decode cX6_isWord 56 = .ok (.iinc 2 1, 3) := by decide +kernel
theorem dX6_isWord_59 : decode cX6_isWord 59 = .ok (.goto (-31), 3) := by decide +kernel
theorem dX6_isWord_62 : decode cX6_isWord 62 = .ok (.iconst 1, 1) := by decide +kernel
theorem dX6_isWord_63 : decode cX6_isWord 63 = .ok (.ireturn, 1) := by decide +kernel
theorem dX6_isSameAs_0 : decode cX6_isSameAs 0 = .ok (.aload_n 0, 1) := by decide +kernel
theorem dX6_isSameAs_1 : decode cX6_isSameAs 1 = .ok (.getfield 36, 3) := by decide +kernel
theorem dX6_isSameAs_4 : decode cX6_isSameAs 4 = .ok (.iconst 1, 1) := by decide +kernel
theorem dX6_isSameAs_5 : decode cX6_isSameAs 5 = .ok (.if_icmp .ne 16, 3) := by decide +kernel
theorem dX6_isSameAs_8 : decode cX6_isSameAs 8 = .ok (.aload_n 0, 1) := by decide +kernel
theorem dX6_isSameAs_9 : decode cX6_isSameAs 9 = .ok (.getfield 19, 3) := by decide +kernel
theorem dX6_isSameAs_12 : decode cX6_isSameAs 12 = .ok (.aload_n 0, 1) := by decide +kernel
theorem dX6_isSameAs_13 : decode cX6_isSameAs 13 = .ok (.getfield 25, 3) := by decide +kernel
theorem dX6_isSameAs_16 : decode cX6_isSameAs 16 = .ok (.isub, 1) := by decide +kernel
theorem dX6_isSameAs_17 : decode cX6_isSameAs 17 = .ok (.iload_n 2, 1) := by decide +kernel
theorem dX6_isSameAs_18 : decode cX6_isSameAs 18 = .ok (.if_icmp .eq 5, 3) := by decide +kernel
theorem dX6_isSameAs_21 : decode cX6_isSameAs 21 = .ok (.iconst 0, 1) := by decide +kernel
theorem dX6_isSameAs_22 : decode cX6_isSameAs 22 = .ok (.ireturn, 1) := by decide +kernel
theorem dX6_isSameAs_23 : decode cX6_isSameAs 23 = .ok (.iconst 0, 1) := by decide +kernel
theorem dX6_isSameAs_24 : decode cX6_isSameAs 24 = .ok (.istore_n 3, 1) := by decide +kernel
theorem dX6_isSameAs_25 : decode cX6_isSameAs 25 = .ok (.iload_n 3, 1) := by decide +kernel
theorem dX6_isSameAs_26 : decode cX6_isSameAs 26 = .ok (.iload_n 2, 1) := by decide +kernel
theorem dX6_isSameAs_27 : decode cX6_isSameAs 27 = .ok (.if_icmp .ge 31, 3) := by decide +kernel
theorem dX6_isSameAs_30 : decode cX6_isSameAs 30 = .ok (.aload_n 0, 1) := by decide +kernel
theorem dX6_isSameAs_31 : decode cX6_isSameAs 31 = .ok (.aload_n 0, 1) := by decide +kernel
theorem dX6_isSameAs_32 : decode cX6_isSameAs 32 = .ok (.getfield 25, 3) := by decide +kernel
theorem dX6_isSameAs_35 : decode cX6_isSameAs 35 = .ok (.iload_n 3, 1) := by decide +kernel
theorem dX6_isSameAs_36 : decode cX6_isSameAs 36 = .ok (.iadd, 1) := by decide +kernel
theorem dX6_isSameAs_37 : decode cX6_isSameAs 37 = .ok (.invokevirtual 28, 3) := by decide +kernel
theorem dX6_isSameAs_40 : decode cX6_isSameAs 40 = .ok (.aload_n 0, 1) := by decide +kernel
theorem dX6_isSameAs_41 : decode cX6_isSameAs 41 = .ok (.iload_n 1, 1) := by decide +kernel
theorem dX6_isSameAs_42 : decode cX6_isSameAs 42 = .ok (.iload_n 3, 1) := by decide +kernel
theorem dX6_isSameAs_43 : decode cX6_isSameAs 43 = .ok (.iadd, 1) := by decide +kernel
theorem dX6_isSameAs_44 : decode cX6_isSameAs 44 = .ok (.invokevirtual 28, 3) := by decide +kernel
theorem dX6_isSameAs_47 : decode cX6_isSameAs 47 = .ok (.if_icmp .eq 5, 3) := by decide +kernel
theorem dX6_isSameAs_50 : decode cX6_isSameAs 50 = .ok (.iconst 0, 1) := by decide +kernel
theorem dX6_isSameAs_51 : decode cX6_isSameAs 51 = .ok (.ireturn, 1) := by decide +kernel
theorem dX6_isSameAs_52 : decode cX6_isSameAs 52 = .ok (.iinc 3 1, 3) := by decide +kernel
theorem dX6_isSameAs_55 : decode cX6_isSameAs 55 = .ok (.goto (-30), 3) := by decide +kernel
theorem dX6_isSameAs_58 : decode cX6_isSameAs 58 = .ok (.iconst 1, 1) := by decide +kernel
theorem dX6_isSameAs_59 : decode cX6_isSameAs 59 = .ok (.ireturn, 1) := by decide +kernel
theorem dX6_isBlank_0 : decode cX6_isBlank 0 = .ok (.iload_n 0, 1) := by decide +kernel
theorem dX6_isBlank_1 : decode cX6_isBlank 1 = .ok (.bipush 32, 2) := by decide +kernel
theorem dX6_isBlank_3 : decode cX6_isBlank 3 = .ok (.if_icmp .eq 9, 3) := by decide +kernel
theorem dX6_isBlank_6 : decode cX6_isBlank 6 = .ok (.iload_n 0, 1) := by decide +kernel
theorem dX6_isBlank_7 : decode cX6_isBlank 7 = .ok (.bipush 10, 2) := by decide +kernel
theorem dX6_isBlank_9 : decode cX6_isBlank 9 = .ok (.if_icmp .ne 7, 3) := by decide +kernel
theorem dX6_isBlank_12 : decode cX6_isBlank 12 = .ok (.iconst 1, 1) := by decide +kernel
theorem dX6_isBlank_13 : decode cX6_isBlank 13 = .ok (.goto 4, 3) := by decide +kernel
theorem dX6_isBlank_16 : decode cX6_isBlank 16 = .ok (.iconst 0, 1) := by decide +kernel
theorem dX6_isBlank_17 : decode cX6_isBlank 17 = .ok (.ireturn, 1) := by decide +kernel
theorem dX7_init_0 : decode cX7_init 0 = .ok (.aload_n 0, 1) := by decide +kernel
theorem dX7_init_1 : decode cX7_init 1 = .ok (.invokespecial 3, 3) := by decide +kernel
theorem dX7_init_4 : decode cX7_init 4 = .ok (.aload_n 0, 1) := by decide +kernel
theorem dX7_init_5 : decode cX7_init 5 = .ok (.new 9, 3) := by decide +kernel
theorem dX7_init_8 : decode cX7_init 8 = .ok (.dup, 1) := by decide +kernel
theorem dX7_init_9 : decode cX7_init 9 = .ok (.invokespecial 11, 3) := by decide +kernel
theorem dX7_init_12 : decode cX7_init 12 = .ok (.putfield 12, 3) := by decide +kernel
theorem dX7_init_15 : decode cX7_init 15 = .ok (.aload_n 0, 1) := by decide +kernel
theorem dX7_init_16 : decode cX7_init 16 = .ok (.new 18, 3) := by decide +kernel
theorem dX7_init_19 : decode cX7_init 19 = .ok (.dup, 1) := by decide +kernel
theorem dX7_init_20 : decode cX7_init 20 = .ok (.invokespecial 20, 3) := by decide +kernel
theorem dX7_init_23 : decode cX7_init 23 = .ok (.putfield 21, 3) := by decide +kernel
theorem dX7_init_26 : decode cX7_init 26 = .ok (.aload_n 0, 1) := by decide +kernel
theorem dX7_init_27 : decode cX7_init 27 = .ok (.bipush 6, 2) := by decide +kernel
theorem dX7_init_29 : decode cX7_init 29 = .ok (.newarray .int, 2) := by decide +kernel
theorem dX7_init_31 : decode cX7_init 31 = .ok (.putfield 25, 3) := by decide +kernel
theorem dX7_init_34 : decode cX7_init 34 = .ok (.aload_n 0, 1) := by decide +kernel
theorem dX7_init_35 : decode cX7_init 35 = .ok (.bipush 6, 2) := by decide +kernel
theorem dX7_init_37 : decode cX7_init 37 = .ok (.newarray .int, 2) := by decide +kernel
theorem dX7_init_39 : decode cX7_init 39 = .ok (.putfield 29, 3) := by decide +kernel
theorem dX7_init_42 : decode cX7_init 42 = .ok (.return_, 1) := by decide +kernel
theorem dX7_readText_0 : decode cX7_readText 0 = .ok (.aload_n 0, 1) := by decide +kernel
theorem dX7_readText_1 : decode cX7_readText 1 = .ok (.getfield 21, 3) := by decide +kernel
theorem dX7_readText_4 : decode cX7_readText 4 = .ok (.invokevirtual 32, 3) := by decide +kernel
theorem dX7_readText_7 : decode cX7_readText 7 = .ok (.aload_n 0, 1) := by decide +kernel
theorem dX7_readText_8 : decode cX7_readText 8 = .ok (.iconst 0, 1) := by decide +kernel
theorem dX7_readText_9 : decode cX7_readText 9 = .ok (.putfield 35, 3) := by decide +kernel
theorem dX7_readText_12 : decode cX7_readText 12 = .ok (.aload_n 0, 1) := by decide +kernel
theorem dX7_readText_13 : decode cX7_readText 13 = .ok (.getfield 12, 3) := by decide +kernel
theorem dX7_readText_16 : decode cX7_readText 16 = .ok (.invokevirtual 39, 3) := by decide +kernel
theorem dX7_readText_19 : decode cX7_readText 19 = .ok (.iconst 0, 1) := by decide +kernel
theorem dX7_readText_20 : decode cX7_readText 20 = .ok (.istore_n 1, 1) := by decide +kernel
theorem dX7_readText_21 : decode cX7_readText 21 = .ok (.iload_n 1, 1) := by decide +kernel
theorem dX7_readText_22 : decode cX7_readText 22 = .ok (.bipush 13, 2) := by decide +kernel
theorem dX7_readText_24 : decode cX7_readText 24 = .ok (.if_icmp .gt 75, 3) := by decide +kernel
theorem dX7_readText_27 : decode cX7_readText 27 = .ok (.aload_n 0, 1) := by decide +kernel
theorem dX7_readText_28 : decode cX7_readText 28 = .ok (.getfield 12, 3) := by decide +kernel
theorem dX7_readText_31 : decode cX7_readText 31 = .ok (.getfield 42, 3) := by decide +kernel
theorem dX7_readText_34 : decode cX7_readText 34 = .ok (.iconst 4, 1) := by decide +kernel
theorem dX7_readText_35 : decode cX7_readText 35 = .ok (.if_icmp .ne 5, 3) := by decide +kernel
theorem dX7_readText_38 : decode cX7_readText 38 = .ok (.iload_n 1, 1) := by decide +kernel
theorem dX7_readText_39 : decode cX7_readText 39 = .ok (.ireturn, 1) := by decide +kernel
theorem dX7_readText_40 : decode cX7_readText 40 = .ok (.iload_n 1, 1) := by decide +kernel
theorem dX7_readText_41 : decode cX7_readText 41 = .ok (.ifCond .ne 11, 3) := by decide +kernel
theorem dX7_readText_44 : decode cX7_readText 44 = .ok (.aload_n 0, 1) := by decide +kernel
theorem dX7_readText_45 : decode cX7_readText 45 = .ok (.invokevirtual 45, 3) := by decide +kernel
theorem dX7_readText_48 : decode cX7_readText 48 = .ok (.istore_n 2, 1) := by decide +kernel
theorem dX7_readText_49 : decode cX7_readText 49 = .ok (.goto 28, 3) := by decide +kernel
theorem dX7_readText_52 : decode cX7_readText 52 = .ok (.aload_n 0, 1) := by decide +kernel
theorem dX7_readText_53 : decode cX7_readText 53 = .ok (.getfield 12, 3) := by decide +kernel
theorem dX7_readText_56 : decode cX7_readText 56 = .ok (.ldc 49, 2) := by decide +kernel
theorem dX7_readText_58 : decode cX7_readText 58 = .ok (.invokevirtual 51, 3) := by decide +kernel
theorem dX7_readText_61 : decode cX7_readText 61 = .ok (.ifCond .eq 11, 3) := by decide +kernel
theorem dX7_readText_64 : decode cX7_readText 64 = .ok (.aload_n 0, 1) := by decide +kernel
theorem dX7_readText_65 : decode cX7_readText 65 = .ok (.invokevirtual 55, 3) := by decide +kernel
theorem dX7_readText_68 : decode cX7_readText 68 = .ok (.istore_n 2, 1) := by decide +kernel
theorem dX7_readText_69 : decode cX7_readText 69 = .ok (.goto 8, 3) := by decide +kernel
theorem dX7_readText_72 : decode cX7_readText 72 = .ok (.aload_n 0, 1) := by decide +kernel
theorem dX7_readText_73 : decode cX7_readText 73 = .ok (.invokevirtual 58, 3) := by decide +kernel
theorem dX7_readText_76 : decode cX7_readText 76 = .ok (.istore_n 2, 1) := by decide +kernel
theorem dX7_readText_77 : decode cX7_readText 77 = .ok (.iload_n 2, 1) := by decide +kernel
theorem dX7_readText_78 : decode cX7_readText 78 = .ok (.ifCond .eq 21, 3) := by decide +kernel
theorem dX7_readText_81 : decode cX7_readText 81 = .ok (.aload_n 0, 1) := by decide +kernel
theorem dX7_readText_82 : decode cX7_readText 82 = .ok (.bipush 59, 2) := by decide +kernel
theorem dX7_readText_84 : decode cX7_readText 84 = .ok (.invokevirtual 61, 3) := by decide +kernel
theorem dX7_readText_87 : decode cX7_readText 87 = .ok (.ifCond .ne 6, 3) := by decide +kernel
theorem dX7_readText_90 : decode cX7_readText 90 = .ok (.goto 9, 3) := by decide +kernel
theorem dX7_readText_93 : decode cX7_readText 93 = .ok (.iinc 1 1, 3) := by decide +kernel
theorem dX7_readText_96 : decode cX7_readText 96 = .ok (.goto (-75), 3) := by decide +kernel
theorem dX7_readText_99 : decode cX7_readText 99 = .ok (.iconst (-1), 1) := by decide +kernel
theorem dX7_readText_100 : decode cX7_readText 100 = .ok (.aload_n 0, 1) := by decide +kernel
theorem dX7_readText_101 : decode cX7_readText 101 = .ok (.getfield 12, 3) := by decide +kernel
theorem dX7_readText_104 : decode cX7_readText 104 = .ok (.getfield 65, 3) := by decide +kernel
theorem dX7_readText_107 : decode cX7_readText 107 = .ok (.isub, 1) := by decide +kernel
theorem dX7_readText_108 : decode cX7_readText 108 = .ok (.ireturn, 1) := by decide +kernel
theorem dX7_exchangeBook_0 : decode cX7_exchangeBook 0 = .ok (.aload_n 0, 1) := by decide +kernel
theorem dX7_exchangeBook_1 : decode cX7_exchangeBook 1 = .ok (.getfield 21, 3) := by decide +kernel
theorem dX7_exchangeBook_4 : decode cX7_exchangeBook 4 = .ok (.astore_n 2, 1) := by decide +kernel
theorem dX7_exchangeBook_5 : decode cX7_exchangeBook 5 = .ok (.aload_n 0, 1) := by decide +kernel
theorem dX7_exchangeBook_6 : decode cX7_exchangeBook 6 = .ok (.aload_n 1, 1) := by decide +kernel
theorem dX7_exchangeBook_7 : decode cX7_exchangeBook 7 = .ok (.putfield 21, 3) := by decide +kernel
theorem dX7_exchangeBook_10 : decode cX7_exchangeBook 10 = .ok (.aload_n 2, 1) := by decide +kernel
theorem dX7_exchangeBook_11 : decode cX7_exchangeBook 11 = .ok (.areturn, 1) := by decide +kernel
theorem dX7_refuse_0 : decode cX7_refuse 0 = .ok (.aload_n 0, 1) := by decide +kernel
theorem dX7_refuse_1 : decode cX7_refuse 1 = .ok (.iload_n 1, 1) := by decide +kernel
theorem dX7_refuse_2 : decode cX7_refuse 2 = .ok (.putfield 35, 3) := by decide +kernel
theorem dX7_refuse_5 : decode cX7_refuse 5 = .ok (.iconst 0, 1) := by decide +kernel
theorem dX7_refuse_6 : decode cX7_refuse 6 = .ok (.ireturn, 1) := by decide +kernel
theorem dX7_readNow_0 : decode cX7_readNow 0 = .ok (.aload_n 0, 1) := by decide +kernel
theorem dX7_readNow_1 : decode cX7_readNow 1 = .ok (.ldc 68, 2) := by decide +kernel
theorem dX7_readNow_3 : decode cX7_readNow 3 = .ok (.invokevirtual 70, 3) := by decide +kernel
theorem dX7_readNow_6 : decode cX7_readNow 6 = .ok (.ifCond .eq 13, 3) := by decide +kernel
theorem dX7_readNow_9 : decode cX7_readNow 9 = .ok (.aload_n 0, 1) := by decide +kernel
theorem dX7_readNow_10 : decode cX7_readNow 10 = .ok (.iconst 0, 1) := by decide +kernel
theorem dX7_readNow_11 : decode cX7_readNow 11 = .ok (.bipush 35, 2) := by decide +kernel
theorem dX7_readNow_13 : decode cX7_readNow 13 = .ok (.invokevirtual 73, 3) := by decide +kernel
theorem dX7_readNow_16 : decode cX7_readNow 16 = .ok (.ifCond .ne 5, 3) := by decide +kernel
theorem dX7_readNow_19 : decode cX7_readNow 19 = .ok (.iconst 0, 1) := by decide +kernel
theorem dX7_readNow_20 : decode cX7_readNow 20 = .ok (.ireturn, 1) := by decide +kernel
theorem dX7_readNow_21 : decode cX7_readNow 21 = .ok (.aload_n 0, 1) := by decide +kernel
theorem dX7_readNow_22 : decode cX7_readNow 22 = .ok (.getfield 21, 3) := by decide +kernel
theorem dX7_readNow_25 : decode cX7_readNow 25 = .ok (.aload_n 0, 1) := by decide +kernel
theorem dX7_readNow_26 : decode cX7_readNow 26 = .ok (.getfield 77, 3) := by decide +kernel
theorem dX7_readNow_29 : decode cX7_readNow 29 = .ok (.putfield 80, 3) := by decide +kernel
theorem dX7_readNow_32 : decode cX7_readNow 32 = .ok (.iconst 1, 1) := by decide +kernel
theorem dX7_readNow_33 : decode cX7_readNow 33 = .ok (.ireturn, 1) := by decide +kernel
theorem dX7_readIndex_0 : decode cX7_readIndex 0 = .ok (.aload_n 0, 1) := by decide +kernel
theorem dX7_readIndex_1 : decode cX7_readIndex 1 = .ok (.getfield 12, 3) := by decide +kernel
theorem dX7_readIndex_4 : decode cX7_readIndex 4 = .ok (.ldc 83, 2) := by decide +kernel
theorem dX7_readIndex_6 : decode cX7_readIndex 6 = .ok (.invokevirtual 51, 3) := by decide +kernel
theorem dX7_readIndex_9 : decode cX7_readIndex 9 = .ok (.ifCond .ne 9, 3) := by decide +kernel
theorem dX7_readIndex_12 : decode cX7_readIndex 12 = .ok (.aload_n 0, 1) := by decide +kernel
theorem dX7_readIndex_13 : decode cX7_readIndex 13 = .ok (.iconst 1, 1) := by decide +kernel
theorem dX7_readIndex_14 : decode cX7_readIndex 14 = .ok (.invokevirtual 85, 3) := by decide +kernel
end
section
theorem dX7_readIndex_17 : decode cX7_readIndex 17 = .ok (.ireturn, 1) := by decide +kernel
theorem dX7_readIndex_18 : decode cX7_readIndex 18 = .ok (.aload_n 0, 1) := by decide +kernel
theorem dX7_readIndex_19 : decode cX7_readIndex 19 = .ok (.getfield 21, 3) := by decide +kernel
theorem dX7_readIndex_22 : decode cX7_readIndex 22 = .ok (.getfield 89, 3) := by decide +kernel
theorem dX7_readIndex_25 : decode cX7_readIndex 25 = .ok (.istore_n 1, 1) := by decide +kernel
theorem dX7_readIndex_26 : decode cX7_readIndex 26 = .ok (.aload_n 0, 1) := by decide +kernel
theorem dX7_readIndex_27 : decode cX7_readIndex 27 = .ok (.getfield 21, 3) := by decide +kernel
theorem dX7_readIndex_30 : decode cX7_readIndex 30 = .ok (.invokevirtual 92, 3) := by decide +kernel
theorem dX7_readIndex_33 : decode cX7_readIndex 33 = .ok (.astore_n 2, 1) := by decide +kernel
theorem dX7_readIndex_34 : decode cX7_readIndex 34 = .ok (.aload_n 2, 1) := by decide +kernel
theorem dX7_readIndex_35 : decode cX7_readIndex 35 = .ok (.ifnonnull 9, 3) := by decide +kernel
theorem dX7_readIndex_38 : decode cX7_readIndex 38 = .ok (.aload_n 0, 1) := by decide +kernel
theorem dX7_readIndex_39 : decode cX7_readIndex 39 = .ok (.iconst 4, 1) := by decide +kernel
theorem dX7_readIndex_40 : decode cX7_readIndex 40 = .ok (.invokevirtual 85, 3) := by decide +kernel
theorem dX7_readIndex_43 : decode cX7_readIndex 43 = .ok (.ireturn, 1) := by decide +kernel
theorem dX7_readIndex_44 : decode cX7_readIndex 44 = .ok (.aload_n 0, 1) := by decide +kernel
theorem dX7_readIndex_45 : decode cX7_readIndex 45 = .ok (.getfield 12, 3) := by decide +kernel
theorem dX7_readIndex_48 : decode cX7_readIndex 48 = .ok (.invokevirtual 96, 3) := by decide +kernel
theorem dX7_readIndex_51 : decode cX7_readIndex 51 = .ok (.aload_n 0, 1) := by decide +kernel
theorem dX7_readIndex_52 : decode cX7_readIndex 52 = .ok (.invokevirtual 99, 3) := by decide +kernel
theorem dX7_readIndex_55 : decode cX7_readIndex 55 = .ok (.ifCond .ne 9, 3) := by decide +kernel
theorem dX7_readIndex_58 : decode cX7_readIndex 58 = .ok (.aload_n 0, 1) := by decide +kernel
theorem dX7_readIndex_59 : decode cX7_readIndex 59 = .ok (.iconst 1, 1) := by decide +kernel
theorem dX7_readIndex_60 : decode cX7_readIndex 60 = .ok (.invokevirtual 85, 3) := by decide +kernel
theorem dX7_readIndex_63 : decode cX7_readIndex 63 = .ok (.ireturn, 1) := by decide +kernel
theorem dX7_readIndex_64 : decode cX7_readIndex 64 = .ok (.aload_n 0, 1) := by decide +kernel
theorem dX7_readIndex_65 : decode cX7_readIndex 65 = .ok (.iload_n 1, 1) := by decide +kernel
theorem dX7_readIndex_66 : decode cX7_readIndex 66 = .ok (.invokevirtual 102, 3) := by decide +kernel
theorem dX7_readIndex_69 : decode cX7_readIndex 69 = .ok (.iconst (-1), 1) := by decide +kernel
theorem dX7_readIndex_70 : decode cX7_readIndex 70 = .ok (.if_icmp .eq 9, 3) := by decide +kernel
theorem dX7_readIndex_73 : decode cX7_readIndex 73 = .ok (.aload_n 0, 1) := by decide +kernel
theorem dX7_readIndex_74 : decode cX7_readIndex 74 = .ok (.iconst 3, 1) := by decide +kernel
theorem dX7_readIndex_75 : decode cX7_readIndex 75 = .ok (.invokevirtual 85, 3) := by decide +kernel
theorem dX7_readIndex_78 : decode cX7_readIndex 78 = .ok (.ireturn, 1) := by decide +kernel
theorem dX7_readIndex_79 : decode cX7_readIndex 79 = .ok (.aload_n 0, 1) := by decide +kernel
theorem dX7_readIndex_80 : decode cX7_readIndex 80 = .ok (.iload_n 1, 1) := by decide +kernel
theorem dX7_readIndex_81 : decode cX7_readIndex 81 = .ok (.invokevirtual 106, 3) := by decide +kernel
theorem dX7_readIndex_84 : decode cX7_readIndex 84 = .ok (.aload_n 0, 1) := by decide +kernel
theorem dX7_readIndex_85 : decode cX7_readIndex 85 = .ok (.getfield 12, 3) := by decide +kernel
theorem dX7_readIndex_88 : decode cX7_readIndex 88 = .ok (.invokevirtual 96, 3) := by decide +kernel
theorem dX7_readIndex_91 : decode cX7_readIndex 91 = .ok (.aload_n 0, 1) := by decide +kernel
theorem dX7_readIndex_92 : decode cX7_readIndex 92 = .ok (.aload_n 2, 1) := by decide +kernel
theorem dX7_readIndex_93 : decode cX7_readIndex 93 = .ok (.invokevirtual 110, 3) := by decide +kernel
theorem dX7_readIndex_96 : decode cX7_readIndex 96 = .ok (.ireturn, 1) := by decide +kernel
theorem dX7_readValues_0 : decode cX7_readValues 0 = .ok (.aload_n 0, 1) := by decide +kernel
theorem dX7_readValues_1 : decode cX7_readValues 1 = .ok (.aload_n 1, 1) := by decide +kernel
theorem dX7_readValues_2 : decode cX7_readValues 2 = .ok (.iconst 0, 1) := by decide +kernel
theorem dX7_readValues_3 : decode cX7_readValues 3 = .ok (.invokevirtual 114, 3) := by decide +kernel
theorem dX7_readValues_6 : decode cX7_readValues 6 = .ok (.ifCond .ne 5, 3) := by decide +kernel
theorem dX7_readValues_9 : decode cX7_readValues 9 = .ok (.iconst 0, 1) := by decide +kernel
theorem dX7_readValues_10 : decode cX7_readValues 10 = .ok (.ireturn, 1) := by decide +kernel
theorem dX7_readValues_11 : decode cX7_readValues 11 = .ok (.iconst 1, 1) := by decide +kernel
theorem dX7_readValues_12 : decode cX7_readValues 12 = .ok (.istore_n 2, 1) := by decide +kernel
theorem dX7_readValues_13 : decode cX7_readValues 13 = .ok (.iload_n 2, 1) := by decide +kernel
theorem dX7_readValues_14 : decode cX7_readValues 14 = .ok (.bipush 36, 2) := by decide +kernel
theorem dX7_readValues_16 : decode cX7_readValues 16 = .ok (.if_icmp .gt 31, 3) := by decide +kernel
theorem dX7_readValues_19 : decode cX7_readValues 19 = .ok (.aload_n 0, 1) := by decide +kernel
theorem dX7_readValues_20 : decode cX7_readValues 20 = .ok (.getfield 12, 3) := by decide +kernel
theorem dX7_readValues_23 : decode cX7_readValues 23 = .ok (.getfield 42, 3) := by decide +kernel
theorem dX7_readValues_26 : decode cX7_readValues 26 = .ok (.iconst 2, 1) := by decide +kernel
theorem dX7_readValues_27 : decode cX7_readValues 27 = .ok (.if_icmp .ne 20, 3) := by decide +kernel
theorem dX7_readValues_30 : decode cX7_readValues 30 = .ok (.aload_n 0, 1) := by decide +kernel
theorem dX7_readValues_31 : decode cX7_readValues 31 = .ok (.aload_n 1, 1) := by decide +kernel
theorem dX7_readValues_32 : decode cX7_readValues 32 = .ok (.iload_n 2, 1) := by decide +kernel
theorem dX7_readValues_33 : decode cX7_readValues 33 = .ok (.invokevirtual 114, 3) := by decide +kernel
theorem dX7_readValues_36 : decode cX7_readValues 36 = .ok (.ifCond .ne 5, 3) := by decide +kernel
theorem dX7_readValues_39 : decode cX7_readValues 39 = .ok (.iconst 0, 1) := by decide +kernel
theorem dX7_readValues_40 : decode cX7_readValues 40 = .ok (.ireturn, 1) := by decide +kernel
theorem dX7_readValues_41 : decode cX7_readValues 41 = .ok (.iinc 2 1, 3) := by decide +kernel
theorem dX7_readValues_44 : decode cX7_readValues 44 = .ok (.goto (-31), 3) := by decide +kernel
theorem dX7_readValues_47 : decode cX7_readValues 47 = .ok (.iconst 1, 1) := by decide +kernel
theorem dX7_readValues_48 : decode cX7_readValues 48 = .ok (.ireturn, 1) := by decide +kernel
theorem dX7_readValue_0 : decode cX7_readValue 0 = .ok (.iload_n 2, 1) := by decide +kernel
theorem dX7_readValue_1 : decode cX7_readValue 1 = .ok (.aload_n 0, 1) := by decide +kernel
theorem dX7_readValue_2 : decode cX7_readValue 2 = .ok (.getfield 21, 3) := by decide +kernel
theorem dX7_readValue_5 : decode cX7_readValue 5 = .ok (.getfield 80, 3) := by decide +kernel
theorem dX7_readValue_8 : decode cX7_readValue 8 = .ok (.if_icmp .gt 9, 3) := by decide +kernel
theorem dX7_readValue_11 : decode cX7_readValue 11 = .ok (.sipush 999, 3) := by decide +kernel
theorem dX7_readValue_14 : decode cX7_readValue 14 = .ok (.goto 4, 3) := by decide +kernel
theorem dX7_readValue_17 : decode cX7_readValue 17 = .ok (.iconst 0, 1) := by decide +kernel
theorem dX7_readValue_18 : decode cX7_readValue 18 = .ok (.istore_n 3, 1) := by decide +kernel
theorem dX7_readValue_19 : decode cX7_readValue 19 = .ok (.aload_n 0, 1) := by decide +kernel
theorem dX7_readValue_20 : decode cX7_readValue 20 = .ok (.iconst 1, 1) := by decide +kernel
theorem dX7_readValue_21 : decode cX7_readValue 21 = .ok (.iload_n 3, 1) := by decide +kernel
theorem dX7_readValue_22 : decode cX7_readValue 22 = .ok (.invokevirtual 73, 3) := by decide +kernel
theorem dX7_readValue_25 : decode cX7_readValue 25 = .ok (.ifCond .ne 5, 3) := by decide +kernel
theorem dX7_readValue_28 : decode cX7_readValue 28 = .ok (.iconst 0, 1) := by decide +kernel
theorem dX7_readValue_29 : decode cX7_readValue 29 = .ok (.ireturn, 1) := by decide +kernel
theorem dX7_readValue_30 : decode cX7_readValue 30 = .ok (.aload_n 1, 1) := by decide +kernel
theorem dX7_readValue_31 : decode cX7_readValue 31 = .ok (.iload_n 2, 1) := by decide +kernel
theorem dX7_readValue_32 : decode cX7_readValue 32 = .ok (.aload_n 0, 1) := by decide +kernel
theorem dX7_readValue_33 : decode cX7_readValue 33 = .ok (.getfield 77, 3) := by decide +kernel
theorem dX7_readValue_36 : decode cX7_readValue 36 = .ok (.iconst 2, 1) := by decide +kernel
theorem dX7_readValue_37 : decode cX7_readValue 37 = .ok (.invokevirtual 118, 3) := by decide +kernel
theorem dX7_readValue_40 : decode cX7_readValue 40 = .ok (.iconst 1, 1) := by decide +kernel
theorem dX7_readValue_41 : decode cX7_readValue 41 = .ok (.ireturn, 1) := by decide +kernel
theorem dX7_readContract_0 : decode cX7_readContract 0 = .ok (.aload_n 0, 1) := by decide +kernel
theorem dX7_readContract_1 : decode cX7_readContract 1 = .ok (.getfield 21, 3) := by decide +kernel
theorem dX7_readContract_4 : decode cX7_readContract 4 = .ok (.invokevirtual 124, 3) := by decide +kernel
theorem dX7_readContract_7 : decode cX7_readContract 7 = .ok (.astore_n 1, 1) := by decide +kernel
theorem dX7_readContract_8 : decode cX7_readContract 8 = .ok (.aload_n 1, 1) := by decide +kernel
theorem dX7_readContract_9 : decode cX7_readContract 9 = .ok (.ifnonnull 9, 3) := by decide +kernel
theorem dX7_readContract_12 : decode cX7_readContract 12 = .ok (.aload_n 0, 1) := by decide +kernel
theorem dX7_readContract_13 : decode cX7_readContract 13 = .ok (.iconst 4, 1) := by decide +kernel
theorem dX7_readContract_14 : decode cX7_readContract 14 = .ok (.invokevirtual 85, 3) := by decide +kernel
theorem dX7_readContract_17 : decode cX7_readContract 17 = .ok (.ireturn, 1) := by decide +kernel
theorem dX7_readContract_18 : decode cX7_readContract 18 = .ok (.aload_n 0, 1) := by decide +kernel
theorem dX7_readContract_19 : decode cX7_readContract 19 = .ok (.getfield 12, 3) := by decide +kernel
theorem dX7_readContract_22 : decode cX7_readContract 22 = .ok (.invokevirtual 96, 3) := by decide +kernel
theorem dX7_readContract_25 : decode cX7_readContract 25 = .ok (.aload_n 0, 1) := by decide +kernel
theorem dX7_readContract_26 : decode cX7_readContract 26 = .ok (.iconst 1, 1) := by decide +kernel
theorem dX7_readContract_27 : decode cX7_readContract 27 = .ok (.sipush 9999, 3) := by decide +kernel
theorem dX7_readContract_30 : decode cX7_readContract 30 = .ok (.invokevirtual 73, 3) := by decide +kernel
theorem dX7_readContract_33 : decode cX7_readContract 33 = .ok (.ifCond .ne 5, 3) := by decide +kernel
theorem dX7_readContract_36 : decode cX7_readContract 36 = .ok (.iconst 0, 1) := by decide +kernel
theorem dX7_readContract_37 : decode cX7_readContract 37 = .ok (.ireturn, 1) := by decide +kernel
theorem dX7_readContract_38 : decode cX7_readContract 38 = .ok (.aload_n 1, 1) := by decide +kernel
theorem dX7_readContract_39 : decode cX7_readContract 39 = .ok (.aload_n 0, 1) := by decide +kernel
theorem dX7_readContract_40 : decode cX7_readContract 40 = .ok (.getfield 77, 3) := by decide +kernel
theorem dX7_readContract_43 : decode cX7_readContract 43 = .ok (.putfield 128, 3) := by decide +kernel
theorem dX7_readContract_46 : decode cX7_readContract 46 = .ok (.aload_n 0, 1) := by decide +kernel
theorem dX7_readContract_47 : decode cX7_readContract 47 = .ok (.bipush 61, 2) := by decide +kernel
theorem dX7_readContract_49 : decode cX7_readContract 49 = .ok (.invokevirtual 61, 3) := by decide +kernel
theorem dX7_readContract_52 : decode cX7_readContract 52 = .ok (.ifCond .eq 14, 3) := by decide +kernel
theorem dX7_readContract_55 : decode cX7_readContract 55 = .ok (.aload_n 0, 1) := by decide +kernel
theorem dX7_readContract_56 : decode cX7_readContract 56 = .ok (.iconst 0, 1) := by decide +kernel
theorem dX7_readContract_57 : decode cX7_readContract 57 = .ok (.sipush 1000, 3) := by decide +kernel
theorem dX7_readContract_60 : decode cX7_readContract 60 = .ok (.invokevirtual 73, 3) := by decide +kernel
theorem dX7_readContract_63 : decode cX7_readContract 63 = .ok (.ifCond .ne 5, 3) := by decide +kernel
theorem dX7_readContract_66 : decode cX7_readContract 66 = .ok (.iconst 0, 1) := by decide +kernel
theorem dX7_readContract_67 : decode cX7_readContract 67 = .ok (.ireturn, 1) := by decide +kernel
theorem dX7_readContract_68 : decode cX7_readContract 68 = .ok (.aload_n 1, 1) := by decide +kernel
theorem dX7_readContract_69 : decode cX7_readContract 69 = .ok (.aload_n 0, 1) := by decide +kernel
theorem dX7_readContract_70 : decode cX7_readContract 70 = .ok (.getfield 77, 3) := by decide +kernel
theorem dX7_readContract_73 : decode cX7_readContract 73 = .ok (.putfield 133, 3) := by decide +kernel
theorem dX7_readContract_76 : decode cX7_readContract 76 = .ok (.aload_n 0, 1) := by decide +kernel
theorem dX7_readContract_77 : decode cX7_readContract 77 = .ok (.aload_n 1, 1) := by decide +kernel
theorem dX7_readContract_78 : decode cX7_readContract 78 = .ok (.invokevirtual 136, 3) := by decide +kernel
theorem dX7_readContract_81 : decode cX7_readContract 81 = .ok (.ifCond .eq 23, 3) := by decide +kernel
theorem dX7_readContract_84 : decode cX7_readContract 84 = .ok (.aload_n 0, 1) := by decide +kernel
theorem dX7_readContract_85 : decode cX7_readContract 85 = .ok (.aload_n 1, 1) := by decide +kernel
theorem dX7_readContract_86 : decode cX7_readContract 86 = .ok (.invokevirtual 140, 3) := by decide +kernel
theorem dX7_readContract_89 : decode cX7_readContract 89 = .ok (.ifCond .eq 15, 3) := by decide +kernel
theorem dX7_readContract_92 : decode cX7_readContract 92 = .ok (.aload_n 0, 1) := by decide +kernel
theorem dX7_readContract_93 : decode cX7_readContract 93 = .ok (.aload_n 1, 1) := by decide +kernel
theorem dX7_readContract_94 : decode cX7_readContract 94 = .ok (.invokevirtual 143, 3) := by decide +kernel
theorem dX7_readContract_97 : decode cX7_readContract 97 = .ok (.ifCond .eq 7, 3) := by decide +kernel
theorem dX7_readContract_100 : decode cX7_readContract 100 = .ok (.iconst 1, 1) := by decide +kernel
theorem dX7_readContract_101 : decode cX7_readContract 101 = .ok (.goto 4, 3) := by decide +kernel
theorem dX7_readContract_104 : decode cX7_readContract 104 = .ok (.iconst 0, 1) := by decide +kernel
theorem dX7_readContract_105 : decode cX7_readContract 105 = .ok (.ireturn, 1) := by decide +kernel
theorem dX7_readTerms_0 : decode cX7_readTerms 0 = .ok (.iconst 0, 1) := by decide +kernel
theorem dX7_readTerms_1 : decode cX7_readTerms 1 = .ok (.istore_n 2, 1) := by decide +kernel
theorem dX7_readTerms_2 : decode cX7_readTerms 2 = .ok (.iload_n 2, 1) := by decide +kernel
theorem dX7_readTerms_3 : decode cX7_readTerms 3 = .ok (.bipush 6, 2) := by decide +kernel
theorem dX7_readTerms_5 : decode cX7_readTerms 5 = .ok (.if_icmp .gt 101, 3) := by decide +kernel
theorem dX7_readTerms_8 : decode cX7_readTerms 8 = .ok (.aload_n 0, 1) := by decide +kernel
theorem dX7_readTerms_9 : decode cX7_readTerms 9 = .ok (.getfield 12, 3) := by decide +kernel
theorem dX7_readTerms_12 : decode cX7_readTerms 12 = .ok (.bipush 43, 2) := by decide +kernel
theorem dX7_readTerms_14 : decode cX7_readTerms 14 = .ok (.invokevirtual 146, 3) := by decide +kernel
theorem dX7_readTerms_17 : decode cX7_readTerms 17 = .ok (.ifCond .eq 89, 3) := by decide +kernel
theorem dX7_readTerms_20 : decode cX7_readTerms 20 = .ok (.aload_n 0, 1) := by decide +kernel
theorem dX7_readTerms_21 : decode cX7_readTerms 21 = .ok (.getfield 12, 3) := by decide +kernel
theorem dX7_readTerms_24 : decode cX7_readTerms 24 = .ok (.invokevirtual 96, 3) := by decide +kernel
theorem dX7_readTerms_27 : decode cX7_readTerms 27 = .ok (.aload_n 0, 1) := by decide +kernel
theorem dX7_readTerms_28 : decode cX7_readTerms 28 = .ok (.iconst 0, 1) := by decide +kernel
theorem dX7_readTerms_29 : decode cX7_readTerms 29 = .ok (.sipush 1000, 3) := by decide +kernel
theorem dX7_readTerms_32 : decode cX7_readTerms 32 = .ok (.invokevirtual 73, 3) := by decide +kernel
theorem dX7_readTerms_35 : decode cX7_readTerms 35 = .ok (.ifCond .ne 5, 3) := by decide +kernel
theorem dX7_readTerms_38 : decode cX7_readTerms 38 = .ok (.iconst 0, 1) := by decide +kernel
theorem dX7_readTerms_39 : decode cX7_readTerms 39 = .ok (.ireturn, 1) := by decide +kernel
theorem dX7_readTerms_40 : decode cX7_readTerms 40 = .ok (.aload_n 0, 1) := by decide +kernel
theorem dX7_readTerms_41 : decode cX7_readTerms 41 = .ok (.invokevirtual 99, 3) := by decide +kernel
theorem dX7_readTerms_44 : decode cX7_readTerms 44 = .ok (.ifCond .ne 9, 3) := by decide +kernel
theorem dX7_readTerms_47 : decode cX7_readTerms 47 = .ok (.aload_n 0, 1) := by decide +kernel
theorem dX7_readTerms_48 : decode cX7_readTerms 48 = .ok (.iconst 1, 1) := by decide +kernel
theorem dX7_readTerms_49 : decode cX7_readTerms 49 = .ok (.invokevirtual 85, 3) := by decide +kernel
theorem dX7_readTerms_52 : decode cX7_readTerms 52 = .ok (.ireturn, 1) := by decide +kernel
theorem dX7_readTerms_53 : decode cX7_readTerms 53 = .ok (.aload_n 0, 1) := by decide +kernel
theorem dX7_readTerms_54 : decode cX7_readTerms 54 = .ok (.aload_n 0, 1) := by decide +kernel
theorem dX7_readTerms_55 : decode cX7_readTerms 55 = .ok (.getfield 21, 3) := by decide +kernel
theorem dX7_readTerms_58 : decode cX7_readTerms 58 = .ok (.getfield 89, 3) := by decide +kernel
theorem dX7_readTerms_61 : decode cX7_readTerms 61 = .ok (.invokevirtual 102, 3) := by decide +kernel
theorem dX7_readTerms_64 : decode cX7_readTerms 64 = .ok (.istore_n 3, 1) := by decide +kernel
theorem dX7_readTerms_65 : decode cX7_readTerms 65 = .ok (.iload_n 3, 1) := by decide +kernel
theorem dX7_readTerms_66 : decode cX7_readTerms 66 = .ok (.iconst (-1), 1) := by decide +kernel
theorem dX7_readTerms_67 : decode cX7_readTerms 67 = .ok (.if_icmp .eq 11, 3) := by decide +kernel
theorem dX7_readTerms_70 : decode cX7_readTerms 70 = .ok (.aload_n 1, 1) := by decide +kernel
theorem dX7_readTerms_71 : decode cX7_readTerms 71 = .ok (.iload_n 3, 1) := by decide +kernel
theorem dX7_readTerms_72 : decode cX7_readTerms 72 = .ok (.invokevirtual 149, 3) := by decide +kernel
theorem dX7_readTerms_75 : decode cX7_readTerms 75 = .ok (.ifCond .eq 9, 3) := by decide +kernel
theorem dX7_readTerms_78 : decode cX7_readTerms 78 = .ok (.aload_n 0, 1) := by decide +kernel
theorem dX7_readTerms_79 : decode cX7_readTerms 79 = .ok (.iconst 3, 1) := by decide +kernel
theorem dX7_readTerms_80 : decode cX7_readTerms 80 = .ok (.invokevirtual 85, 3) := by decide +kernel
theorem dX7_readTerms_83 : decode cX7_readTerms 83 = .ok (.ireturn, 1) := by decide +kernel
theorem dX7_readTerms_84 : decode cX7_readTerms 84 = .ok (.aload_n 1, 1) := by decide +kernel
theorem dX7_readTerms_85 : decode cX7_readTerms 85 = .ok (.aload_n 0, 1) := by decide +kernel
theorem dX7_readTerms_86 : decode cX7_readTerms 86 = .ok (.getfield 77, 3) := by decide +kernel
theorem dX7_readTerms_89 : decode cX7_readTerms 89 = .ok (.iload_n 3, 1) := by decide +kernel
theorem dX7_readTerms_90 : decode cX7_readTerms 90 = .ok (.invokevirtual 152, 3) := by decide +kernel
theorem dX7_readTerms_93 : decode cX7_readTerms 93 = .ok (.aload_n 0, 1) := by decide +kernel
theorem dX7_readTerms_94 : decode cX7_readTerms 94 = .ok (.getfield 12, 3) := by decide +kernel
theorem dX7_readTerms_97 : decode cX7_readTerms 97 = .ok (.invokevirtual 96, 3) := by decide +kernel
theorem dX7_readTerms_100 : decode cX7_readTerms 100 = .ok (.iinc 2 1, 3) := by decide +kernel
theorem dX7_readTerms_103 : decode cX7_readTerms 103 = .ok (.goto (-101), 3) := by decide +kernel
theorem dX7_readTerms_106 : decode cX7_readTerms 106 = .ok (.iconst 1, 1) := by decide +kernel
theorem dX7_readTerms_107 : decode cX7_readTerms 107 = .ok (.ireturn, 1) := by decide +kernel
theorem dX7_readBase_0 : decode cX7_readBase 0 = .ok (.aload_n 0, 1) := by decide +kernel
theorem dX7_readBase_1 : decode cX7_readBase 1 = .ok (.getfield 12, 3) := by decide +kernel
theorem dX7_readBase_4 : decode cX7_readBase 4 = .ok (.ldc 156, 2) := by decide +kernel
theorem dX7_readBase_6 : decode cX7_readBase 6 = .ok (.invokevirtual 51, 3) := by decide +kernel
theorem dX7_readBase_9 : decode cX7_readBase 9 = .ok (.ifCond .ne 9, 3) := by decide +kernel
theorem dX7_readBase_12 : decode cX7_readBase 12 = .ok (.aload_n 0, 1) := by decide +kernel
theorem dX7_readBase_13 : decode cX7_readBase 13 = .ok (.iconst 1, 1) := by decide +kernel
theorem dX7_readBase_14 : decode cX7_readBase 14 = .ok (.invokevirtual 85, 3) := by decide +kernel
theorem dX7_readBase_17 : decode cX7_readBase 17 = .ok (.ireturn, 1) := by decide +kernel
theorem dX7_readBase_18 : decode cX7_readBase 18 = .ok (.aload_n 1, 1) := by decide +kernel
theorem dX7_readBase_19 : decode cX7_readBase 19 = .ok (.invokevirtual 158, 3) := by decide +kernel
theorem dX7_readBase_22 : decode cX7_readBase 22 = .ok (.sipush 1000, 3) := by decide +kernel
theorem dX7_readBase_25 : decode cX7_readBase 25 = .ok (.if_icmp .eq 9, 3) := by decide +kernel
theorem dX7_readBase_28 : decode cX7_readBase 28 = .ok (.aload_n 0, 1) := by decide +kernel
theorem dX7_readBase_29 : decode cX7_readBase 29 = .ok (.iconst 5, 1) := by decide +kernel
theorem dX7_readBase_30 : decode cX7_readBase 30 = .ok (.invokevirtual 85, 3) := by decide +kernel
theorem dX7_readBase_33 : decode cX7_readBase 33 = .ok (.ireturn, 1) := by decide +kernel
theorem dX7_readBase_34 : decode cX7_readBase 34 = .ok (.aload_n 0, 1) := by decide +kernel
theorem dX7_readBase_35 : decode cX7_readBase 35 = .ok (.getfield 12, 3) := by decide +kernel
theorem dX7_readBase_38 : decode cX7_readBase 38 = .ok (.invokevirtual 96, 3) := by decide +kernel
theorem dX7_readBase_41 : decode cX7_readBase 41 = .ok (.aload_n 0, 1) := by decide +kernel
theorem dX7_readBase_42 : decode cX7_readBase 42 = .ok (.iconst 0, 1) := by decide +kernel
theorem dX7_readBase_43 : decode cX7_readBase 43 = .ok (.aload_n 0, 1) := by decide +kernel
theorem dX7_readBase_44 : decode cX7_readBase 44 = .ok (.getfield 21, 3) := by decide +kernel
theorem dX7_readBase_47 : decode cX7_readBase 47 = .ok (.getfield 80, 3) := by decide +kernel
theorem dX7_readBase_50 : decode cX7_readBase 50 = .ok (.invokevirtual 162, 3) := by decide +kernel
theorem dX7_readBase_53 : decode cX7_readBase 53 = .ok (.ifCond .ne 5, 3) := by decide +kernel
theorem dX7_readBase_56 : decode cX7_readBase 56 = .ok (.iconst 0, 1) := by decide +kernel
theorem dX7_readBase_57 : decode cX7_readBase 57 = .ok (.ireturn, 1) := by decide +kernel
theorem dX7_readBase_58 : decode cX7_readBase 58 = .ok (.aload_n 1, 1) := by decide +kernel
theorem dX7_readBase_59 : decode cX7_readBase 59 = .ok (.aload_n 0, 1) := by decide +kernel
theorem dX7_readBase_60 : decode cX7_readBase 60 = .ok (.getfield 12, 3) := by decide +kernel
theorem dX7_readBase_63 : decode cX7_readBase 63 = .ok (.getfield 165, 3) := by decide +kernel
theorem dX7_readBase_66 : decode cX7_readBase 66 = .ok (.putfield 166, 3) := by decide +kernel
theorem dX7_readBase_69 : decode cX7_readBase 69 = .ok (.iconst 0, 1) := by decide +kernel
theorem dX7_readBase_70 : decode cX7_readBase 70 = .ok (.istore_n 2, 1) := by decide +kernel
theorem dX7_readBase_71 : decode cX7_readBase 71 = .ok (.iload_n 2, 1) := by decide +kernel
theorem dX7_readBase_72 : decode cX7_readBase 72 = .ok (.aload_n 1, 1) := by decide +kernel
theorem dX7_readBase_73 : decode cX7_readBase 73 = .ok (.getfield 168, 3) := by decide +kernel
theorem dX7_readBase_76 : decode cX7_readBase 76 = .ok (.if_icmp .ge 50, 3) := by decide +kernel
theorem dX7_readBase_79 : decode cX7_readBase 79 = .ok (.iload_n 2, 1) := by decide +kernel
theorem dX7_readBase_80 : decode cX7_readBase 80 = .ok (.bipush 6, 2) := by decide +kernel
theorem dX7_readBase_82 : decode cX7_readBase 82 = .ok (.if_icmp .ge 44, 3) := by decide +kernel
theorem dX7_readBase_85 : decode cX7_readBase 85 = .ok (.aload_n 0, 1) := by decide +kernel
theorem dX7_readBase_86 : decode cX7_readBase 86 = .ok (.getfield 21, 3) := by decide +kernel
theorem dX7_readBase_89 : decode cX7_readBase 89 = .ok (.aload_n 1, 1) := by decide +kernel
theorem dX7_readBase_90 : decode cX7_readBase 90 = .ok (.getfield 171, 3) := by decide +kernel
theorem dX7_readBase_93 : decode cX7_readBase 93 = .ok (.iload_n 2, 1) := by decide +kernel
theorem dX7_readBase_94 : decode cX7_readBase 94 = .ok (.iaload, 1) := by decide +kernel
theorem dX7_readBase_95 : decode cX7_readBase 95 = .ok (.invokevirtual 174, 3) := by decide +kernel
theorem dX7_readBase_98 : decode cX7_readBase 98 = .ok (.astore_n 3, 1) := by decide +kernel
theorem dX7_readBase_99 : decode cX7_readBase 99 = .ok (.aload_n 3, 1) := by decide +kernel
theorem dX7_readBase_100 : decode cX7_readBase 100 = .ok (.ifnull 20, 3) := by decide +kernel
theorem dX7_readBase_103 : decode cX7_readBase 103 = .ok (.aload_n 3, 1) := by decide +kernel
theorem dX7_readBase_104 : decode cX7_readBase 104 = .ok (.aload_n 1, 1) := by decide +kernel
theorem dX7_readBase_105 : decode cX7_readBase 105 = .ok (.getfield 166, 3) := by decide +kernel
theorem dX7_readBase_108 : decode cX7_readBase 108 = .ok (.invokevirtual 178, 3) := by decide +kernel
theorem dX7_readBase_111 : decode cX7_readBase 111 = .ok (.ifCond .ne 9, 3) := by decide +kernel
theorem dX7_readBase_114 : decode cX7_readBase 114 = .ok (.aload_n 0, 1) := by decide +kernel
theorem dX7_readBase_115 : decode cX7_readBase 115 = .ok (.iconst 5, 1) := by decide +kernel
theorem dX7_readBase_116 : decode cX7_readBase 116 = .ok (.invokevirtual 85, 3) := by decide +kernel
theorem dX7_readBase_119 : decode cX7_readBase 119 = .ok (.ireturn, 1) := by decide +kernel
theorem dX7_readBase_120 : decode cX7_readBase 120 = .ok (.iinc 2 1, 3) := by decide +kernel
theorem dX7_readBase_123 : decode cX7_readBase 123 = .ok (.goto (-52), 3) := by decide +kernel
theorem dX7_readBase_126 : decode cX7_readBase 126 = .ok (.aload_n 0, 1) := by decide +kernel
theorem dX7_readBase_127 : decode cX7_readBase 127 = .ok (.getfield 12, 3) := by decide +kernel
theorem dX7_readBase_130 : decode cX7_readBase 130 = .ok (.invokevirtual 96, 3) := by decide +kernel
theorem dX7_readBase_133 : decode cX7_readBase 133 = .ok (.iconst 1, 1) := by decide +kernel
theorem dX7_readBase_134 : decode cX7_readBase 134 = .ok (.ireturn, 1) := by decide +kernel
theorem dX7_readRule_0 : decode cX7_readRule 0 = .ok (.aload_n 1, 1) := by decide +kernel
theorem dX7_readRule_1 : decode cX7_readRule 1 = .ok (.aload_n 0, 1) := by decide +kernel
theorem dX7_readRule_2 : decode cX7_readRule 2 = .ok (.getfield 12, 3) := by decide +kernel
theorem dX7_readRule_5 : decode cX7_readRule 5 = .ok (.ldc 181, 2) := by decide +kernel
theorem dX7_readRule_7 : decode cX7_readRule 7 = .ok (.invokevirtual 51, 3) := by decide +kernel
theorem dX7_readRule_10 : decode cX7_readRule 10 = .ok (.putfield 183, 3) := by decide +kernel
theorem dX7_readRule_13 : decode cX7_readRule 13 = .ok (.aload_n 1, 1) := by decide +kernel
theorem dX7_readRule_14 : decode cX7_readRule 14 = .ok (.getfield 183, 3) := by decide +kernel
theorem dX7_readRule_17 : decode cX7_readRule 17 = .ok (.ifCond .ne 21, 3) := by decide +kernel
theorem dX7_readRule_20 : decode cX7_readRule 20 = .ok (.aload_n 0, 1) := by decide +kernel
theorem dX7_readRule_21 : decode cX7_readRule 21 = .ok (.getfield 12, 3) := by decide +kernel
theorem dX7_readRule_24 : decode cX7_readRule 24 = .ok (.ldc 186, 2) := by decide +kernel
theorem dX7_readRule_26 : decode cX7_readRule 26 = .ok (.invokevirtual 51, 3) := by decide +kernel
theorem dX7_readRule_29 : decode cX7_readRule 29 = .ok (.ifCond .ne 9, 3) := by decide +kernel
theorem dX7_readRule_32 : decode cX7_readRule 32 = .ok (.aload_n 0, 1) := by decide +kernel
theorem dX7_readRule_33 : decode cX7_readRule 33 = .ok (.iconst 1, 1) := by decide +kernel
theorem dX7_readRule_34 : decode cX7_readRule 34 = .ok (.invokevirtual 85, 3) := by decide +kernel
theorem dX7_readRule_37 : decode cX7_readRule 37 = .ok (.ireturn, 1) := by decide +kernel
theorem dX7_readRule_38 : decode cX7_readRule 38 = .ok (.aload_n 0, 1) := by decide +kernel
theorem dX7_readRule_39 : decode cX7_readRule 39 = .ok (.getfield 12, 3) := by decide +kernel
theorem dX7_readRule_42 : decode cX7_readRule 42 = .ok (.invokevirtual 96, 3) := by decide +kernel
theorem dX7_readRule_45 : decode cX7_readRule 45 = .ok (.aload_n 0, 1) := by decide +kernel
theorem dX7_readRule_46 : decode cX7_readRule 46 = .ok (.iconst 0, 1) := by decide +kernel
theorem dX7_readRule_47 : decode cX7_readRule 47 = .ok (.sipush 999, 3) := by decide +kernel
theorem dX7_readRule_50 : decode cX7_readRule 50 = .ok (.invokevirtual 73, 3) := by decide +kernel
theorem dX7_readRule_53 : decode cX7_readRule 53 = .ok (.ifCond .ne 5, 3) := by decide +kernel
theorem dX7_readRule_56 : decode cX7_readRule 56 = .ok (.iconst 0, 1) := by decide +kernel
theorem dX7_readRule_57 : decode cX7_readRule 57 = .ok (.ireturn, 1) := by decide +kernel
theorem dX7_readRule_58 : decode cX7_readRule 58 = .ok (.aload_n 1, 1) := by decide +kernel
theorem dX7_readRule_59 : decode cX7_readRule 59 = .ok (.aload_n 0, 1) := by decide +kernel
theorem dX7_readRule_60 : decode cX7_readRule 60 = .ok (.getfield 77, 3) := by decide +kernel
theorem dX7_readRule_63 : decode cX7_readRule 63 = .ok (.putfield 188, 3) := by decide +kernel
theorem dX7_readRule_66 : decode cX7_readRule 66 = .ok (.aload_n 0, 1) := by decide +kernel
theorem dX7_readRule_67 : decode cX7_readRule 67 = .ok (.ldc 191, 2) := by decide +kernel
theorem dX7_readRule_69 : decode cX7_readRule 69 = .ok (.invokevirtual 70, 3) := by decide +kernel
theorem dX7_readRule_72 : decode cX7_readRule 72 = .ok (.ifCond .eq 13, 3) := by decide +kernel
theorem dX7_readRule_75 : decode cX7_readRule 75 = .ok (.aload_n 0, 1) := by decide +kernel
theorem dX7_readRule_76 : decode cX7_readRule 76 = .ok (.iconst 0, 1) := by decide +kernel
theorem dX7_readRule_77 : decode cX7_readRule 77 = .ok (.bipush 100, 2) := by decide +kernel
theorem dX7_readRule_79 : decode cX7_readRule 79 = .ok (.invokevirtual 73, 3) := by decide +kernel
theorem dX7_readRule_82 : decode cX7_readRule 82 = .ok (.ifCond .ne 5, 3) := by decide +kernel
theorem dX7_readRule_85 : decode cX7_readRule 85 = .ok (.iconst 0, 1) := by decide +kernel
theorem dX7_readRule_86 : decode cX7_readRule 86 = .ok (.ireturn, 1) := by decide +kernel
theorem dX7_readRule_87 : decode cX7_readRule 87 = .ok (.aload_n 1, 1) := by decide +kernel
theorem dX7_readRule_88 : decode cX7_readRule 88 = .ok (.aload_n 0, 1) := by decide +kernel
theorem dX7_readRule_89 : decode cX7_readRule 89 = .ok (.getfield 77, 3) := by decide +kernel
theorem dX7_readRule_92 : decode cX7_readRule 92 = .ok (.putfield 193, 3) := by decide +kernel
theorem dX7_readRule_95 : decode cX7_readRule 95 = .ok (.iconst 1, 1) := by decide +kernel
theorem dX7_readRule_96 : decode cX7_readRule 96 = .ok (.ireturn, 1) := by decide +kernel
theorem dX7_readSign_0 : decode cX7_readSign 0 = .ok (.aload_n 0, 1) := by decide +kernel
theorem dX7_readSign_1 : decode cX7_readSign 1 = .ok (.getfield 12, 3) := by decide +kernel
theorem dX7_readSign_4 : decode cX7_readSign 4 = .ok (.iload_n 1, 1) := by decide +kernel
theorem dX7_readSign_5 : decode cX7_readSign 5 = .ok (.invokevirtual 146, 3) := by decide +kernel
theorem dX7_readSign_8 : decode cX7_readSign 8 = .ok (.ifCond .ne 9, 3) := by decide +kernel
theorem dX7_readSign_11 : decode cX7_readSign 11 = .ok (.aload_n 0, 1) := by decide +kernel
theorem dX7_readSign_12 : decode cX7_readSign 12 = .ok (.iconst 1, 1) := by decide +kernel
theorem dX7_readSign_13 : decode cX7_readSign 13 = .ok (.invokevirtual 85, 3) := by decide +kernel
theorem dX7_readSign_16 : decode cX7_readSign 16 = .ok (.ireturn, 1) := by decide +kernel
theorem dX7_readSign_17 : decode cX7_readSign 17 = .ok (.aload_n 0, 1) := by decide +kernel
theorem dX7_readSign_18 : decode cX7_readSign 18 = .ok (.getfield 12, 3) := by decide +kernel
theorem dX7_readSign_21 : decode cX7_readSign 21 = .ok (.invokevirtual 96, 3) := by decide +kernel
theorem dX7_readSign_24 : decode cX7_readSign 24 = .ok (.iconst 1, 1) := by decide +kernel
theorem dX7_readSign_25 : decode cX7_readSign 25 = .ok (.ireturn, 1) := by decide +kernel
theorem dX7_readWord_0 : decode cX7_readWord 0 = .ok (.aload_n 0, 1) := by decide +kernel
theorem dX7_readWord_1 : decode cX7_readWord 1 = .ok (.getfield 12, 3) := by decide +kernel
theorem dX7_readWord_4 : decode cX7_readWord 4 = .ok (.aload_n 1, 1) := by decide +kernel
theorem dX7_readWord_5 : decode cX7_readWord 5 = .ok (.invokevirtual 51, 3) := by decide +kernel
theorem dX7_readWord_8 : decode cX7_readWord 8 = .ok (.ifCond .ne 9, 3) := by decide +kernel
theorem dX7_readWord_11 : decode cX7_readWord 11 = .ok (.aload_n 0, 1) := by decide +kernel
theorem dX7_readWord_12 : decode cX7_readWord 12 = .ok (.iconst 1, 1) := by decide +kernel
theorem dX7_readWord_13 : decode cX7_readWord 13 = .ok (.invokevirtual 85, 3) := by decide +kernel
theorem dX7_readWord_16 : decode cX7_readWord 16 = .ok (.ireturn, 1) := by decide +kernel
theorem dX7_readWord_17 : decode cX7_readWord 17 = .ok (.aload_n 0, 1) := by decide +kernel
theorem dX7_readWord_18 : decode cX7_readWord 18 = .ok (.getfield 12, 3) := by decide +kernel
theorem dX7_readWord_21 : decode cX7_readWord 21 = .ok (.invokevirtual 96, 3) := by decide +kernel
theorem dX7_readWord_24 : decode cX7_readWord 24 = .ok (.iconst 1, 1) := by decide +kernel
theorem dX7_readWord_25 : decode cX7_readWord 25 = .ok (.ireturn, 1) := by decide +kernel
theorem dX7_readNumber_0 : decode cX7_readNumber 0 = .ok (.aload_n 0, 1) := by decide +kernel
theorem dX7_readNumber_1 : decode cX7_readNumber 1 = .ok (.iload_n 1, 1) := by decide +kernel
theorem dX7_readNumber_2 : decode cX7_readNumber 2 = .ok (.iload_n 2, 1) := by decide +kernel
theorem dX7_readNumber_3 : decode cX7_readNumber 3 = .ok (.invokevirtual 162, 3) := by decide +kernel
theorem dX7_readNumber_6 : decode cX7_readNumber 6 = .ok (.ifCond .ne 5, 3) := by decide +kernel
theorem dX7_readNumber_9 : decode cX7_readNumber 9 = .ok (.iconst 0, 1) := by decide +kernel
theorem dX7_readNumber_10 : decode cX7_readNumber 10 = .ok (.ireturn, 1) := by decide +kernel
theorem dX7_readNumber_11 : decode cX7_readNumber 11 = .ok (.aload_n 0, 1) := by decide +kernel
theorem dX7_readNumber_12 : decode cX7_readNumber 12 = .ok (.aload_n 0, 1) := by decide +kernel
theorem dX7_readNumber_13 : decode cX7_readNumber 13 = .ok (.getfield 12, 3) := by decide +kernel
theorem dX7_readNumber_16 : decode cX7_readNumber 16 = .ok (.getfield 165, 3) := by decide +kernel
theorem dX7_readNumber_19 : decode cX7_readNumber 19 = .ok (.putfield 77, 3) := by decide +kernel
theorem dX7_readNumber_22 : decode cX7_readNumber 22 = .ok (.aload_n 0, 1) := by decide +kernel
theorem dX7_readNumber_23 : decode cX7_readNumber 23 = .ok (.getfield 12, 3) := by decide +kernel
theorem dX7_readNumber_26 : decode cX7_readNumber 26 = .ok (.invokevirtual 96, 3) := by decide +kernel
theorem dX7_readNumber_29 : decode cX7_readNumber 29 = .ok (.iconst 1, 1) := by decide +kernel
theorem dX7_readNumber_30 : decode cX7_readNumber 30 = .ok (.ireturn, 1) := by decide +kernel
theorem dX7_isNumber_0 : decode cX7_isNumber 0 = .ok (.aload_n 0, 1) := by decide +kernel
theorem dX7_isNumber_1 : decode cX7_isNumber 1 = .ok (.getfield 12, 3) := by decide +kernel
theorem dX7_isNumber_4 : decode cX7_isNumber 4 = .ok (.getfield 42, 3) := by decide +kernel
theorem dX7_isNumber_7 : decode cX7_isNumber 7 = .ok (.iconst 2, 1) := by decide +kernel
theorem dX7_isNumber_8 : decode cX7_isNumber 8 = .ok (.if_icmp .eq 9, 3) := by decide +kernel
theorem dX7_isNumber_11 : decode cX7_isNumber 11 = .ok (.aload_n 0, 1) := by decide +kernel
theorem dX7_isNumber_12 : decode cX7_isNumber 12 = .ok (.iconst 1, 1) := by decide +kernel
theorem dX7_isNumber_13 : decode cX7_isNumber 13 = .ok (.invokevirtual 85, 3) := by decide +kernel
theorem dX7_isNumber_16 : decode cX7_isNumber 16 = .ok (.ireturn, 1) := by decide +kernel
theorem dX7_isNumber_17 : decode cX7_isNumber 17 = .ok (.aload_n 0, 1) := by decide +kernel
theorem dX7_isNumber_18 : decode cX7_isNumber 18 = .ok (.getfield 12, 3) := by decide +kernel
theorem dX7_isNumber_21 : decode cX7_isNumber 21 = .ok (.getfield 165, 3) := by decide +kernel
theorem dX7_isNumber_24 : decode cX7_isNumber 24 = .ok (.iload_n 1, 1) := by decide +kernel
theorem dX7_isNumber_25 : decode cX7_isNumber 25 = .ok (.if_icmp .lt 14, 3) := by decide +kernel
theorem dX7_isNumber_28 : decode cX7_isNumber 28 = .ok (.aload_n 0, 1) := by decide +kernel
theorem dX7_isNumber_29 : decode cX7_isNumber 29 = .ok (.getfield 12, 3) := by decide +kernel
theorem dX7_isNumber_32 : decode cX7_isNumber 32 = .ok (.getfield 165, 3) := by decide +kernel
theorem dX7_isNumber_35 : decode cX7_isNumber 35 = .ok (.iload_n 2, 1) := by decide +kernel
theorem dX7_isNumber_36 : decode cX7_isNumber 36 = .ok (.if_icmp .le 9, 3) := by decide +kernel
theorem dX7_isNumber_39 : decode cX7_isNumber 39 = .ok (.aload_n 0, 1) := by decide +kernel
theorem dX7_isNumber_40 : decode cX7_isNumber 40 = .ok (.iconst 2, 1) := by decide +kernel
theorem dX7_isNumber_41 : decode cX7_isNumber 41 = .ok (.invokevirtual 85, 3) := by decide +kernel
theorem dX7_isNumber_44 : decode cX7_isNumber 44 = .ok (.ireturn, 1) := by decide +kernel
theorem dX7_isNumber_45 : decode cX7_isNumber 45 = .ok (.iconst 1, 1) := by decide +kernel
theorem dX7_isNumber_46 : decode cX7_isNumber 46 = .ok (.ireturn, 1) := by decide +kernel
theorem dX7_isName_0 : decode cX7_isName 0 = .ok (.aload_n 0, 1) := by decide +kernel
theorem dX7_isName_1 : decode cX7_isName 1 = .ok (.getfield 12, 3) := by decide +kernel
theorem dX7_isName_4 : decode cX7_isName 4 = .ok (.getfield 42, 3) := by decide +kernel
theorem dX7_isName_7 : decode cX7_isName 7 = .ok (.iconst 1, 1) := by decide +kernel
theorem dX7_isName_8 : decode cX7_isName 8 = .ok (.if_icmp .ne 91, 3) := by decide +kernel
theorem dX7_isName_11 : decode cX7_isName 11 = .ok (.aload_n 0, 1) := by decide +kernel
theorem dX7_isName_12 : decode cX7_isName 12 = .ok (.getfield 12, 3) := by decide +kernel
theorem dX7_isName_15 : decode cX7_isName 15 = .ok (.ldc 68, 2) := by decide +kernel
theorem dX7_isName_17 : decode cX7_isName 17 = .ok (.invokevirtual 51, 3) := by decide +kernel
theorem dX7_isName_20 : decode cX7_isName 20 = .ok (.ifCond .ne 79, 3) := by decide +kernel
theorem dX7_isName_23 : decode cX7_isName 23 = .ok (.aload_n 0, 1) := by decide +kernel
theorem dX7_isName_24 : decode cX7_isName 24 = .ok (.getfield 12, 3) := by decide +kernel
theorem dX7_isName_27 : decode cX7_isName 27 = .ok (.ldc 83, 2) := by decide +kernel
theorem dX7_isName_29 : decode cX7_isName 29 = .ok (.invokevirtual 51, 3) := by decide +kernel
theorem dX7_isName_32 : decode cX7_isName 32 = .ok (.ifCond .ne 67, 3) := by decide +kernel
theorem dX7_isName_35 : decode cX7_isName 35 = .ok (.aload_n 0, 1) := by decide +kernel
theorem dX7_isName_36 : decode cX7_isName 36 = .ok (.getfield 12, 3) := by decide +kernel
theorem dX7_isName_39 : decode cX7_isName 39 = .ok (.ldc 49, 2) := by decide +kernel
theorem dX7_isName_41 : decode cX7_isName 41 = .ok (.invokevirtual 51, 3) := by decide +kernel
theorem dX7_isName_44 : decode cX7_isName 44 = .ok (.ifCond .ne 55, 3) := by decide +kernel
theorem dX7_isName_47 : decode cX7_isName 47 = .ok (.aload_n 0, 1) := by decide +kernel
theorem dX7_isName_48 : decode cX7_isName 48 = .ok (.getfield 12, 3) := by decide +kernel
theorem dX7_isName_51 : decode cX7_isName 51 = .ok (.ldc 156, 2) := by decide +kernel
theorem dX7_isName_53 : decode cX7_isName 53 = .ok (.invokevirtual 51, 3) := by decide +kernel
theorem dX7_isName_56 : decode cX7_isName 56 = .ok (.ifCond .ne 43, 3) := by decide +kernel
theorem dX7_isName_59 : decode cX7_isName 59 = .ok (.aload_n 0, 1) := by decide +kernel
theorem dX7_isName_60 : decode cX7_isName 60 = .ok (.getfield 12, 3) := by decide +kernel
theorem dX7_isName_63 : decode cX7_isName 63 = .ok (.ldc 186, 2) := by decide +kernel
theorem dX7_isName_65 : decode cX7_isName 65 = .ok (.invokevirtual 51, 3) := by decide +kernel
theorem dX7_isName_68 : decode cX7_isName 68 = .ok (.ifCond .ne 31, 3) := by decide +kernel
theorem dX7_isName_71 : decode cX7_isName 71 = .ok (.aload_n 0, 1) := by decide +kernel
theorem dX7_isName_72 : decode cX7_isName 72 = .ok (.getfield 12, 3) := by decide +kernel
theorem dX7_isName_75 : decode cX7_isName 75 = .ok (.ldc 181, 2) := by decide +kernel
theorem dX7_isName_77 : decode cX7_isName 77 = .ok (.invokevirtual 51, 3) := by decide +kernel
theorem dX7_isName_80 : decode cX7_isName 80 = .ok (.ifCond .ne 19, 3) := by decide +kernel
theorem dX7_isName_83 : decode cX7_isName 83 = .ok (.aload_n 0, 1) := by decide +kernel
theorem dX7_isName_84 : decode cX7_isName 84 = .ok (.getfield 12, 3) := by decide +kernel
theorem dX7_isName_87 : decode cX7_isName 87 = .ok (.ldc 191, 2) := by decide +kernel
theorem dX7_isName_89 : decode cX7_isName 89 = .ok (.invokevirtual 51, 3) := by decide +kernel
theorem dX7_isName_92 : decode cX7_isName 92 = .ok (.ifCond .ne 7, 3) := by decide +kernel
theorem dX7_isName_95 : decode cX7_isName 95 = .ok (.iconst 1, 1) := by decide +kernel
theorem dX7_isName_96 : decode cX7_isName 96 = .ok (.goto 4, 3) := by decide +kernel
theorem dX7_isName_99 : decode cX7_isName 99 = .ok (.iconst 0, 1) := by decide +kernel
theorem dX7_isName_100 : decode cX7_isName 100 = .ok (.ireturn, 1) := by decide +kernel
theorem dX7_keepName_0 : decode cX7_keepName 0 = .ok (.iload_n 1, 1) := by decide +kernel
theorem dX7_keepName_1 : decode cX7_keepName 1 = .ok (.ifCond .lt 43, 3) := by decide +kernel
theorem dX7_keepName_4 : decode cX7_keepName 4 = .ok (.iload_n 1, 1) := by decide +kernel
theorem dX7_keepName_5 : decode cX7_keepName 5 = .ok (.bipush 6, 2) := by decide +kernel
theorem dX7_keepName_7 : decode cX7_keepName 7 = .ok (.if_icmp .ge 37, 3) := by decide +kernel
theorem dX7_keepName_10 : decode cX7_keepName 10 = .ok (.aload_n 0, 1) := by decide +kernel
theorem dX7_keepName_11 : decode cX7_keepName 11 = .ok (.getfield 25, 3) := by decide +kernel
theorem dX7_keepName_14 : decode cX7_keepName 14 = .ok (.iload_n 1, 1) := by decide +kernel
theorem dX7_keepName_15 : decode cX7_keepName 15 = .ok (.aload_n 0, 1) := by decide +kernel
theorem dX7_keepName_16 : decode cX7_keepName 16 = .ok (.getfield 12, 3) := by decide +kernel
theorem dX7_keepName_19 : decode cX7_keepName 19 = .ok (.getfield 65, 3) := by decide +kernel
theorem dX7_keepName_22 : decode cX7_keepName 22 = .ok (.iastore, 1) := by decide +kernel
theorem dX7_keepName_23 : decode cX7_keepName 23 = .ok (.aload_n 0, 1) := by decide +kernel
theorem dX7_keepName_24 : decode cX7_keepName 24 = .ok (.getfield 29, 3) := by decide +kernel
theorem dX7_keepName_27 : decode cX7_keepName 27 = .ok (.iload_n 1, 1) := by decide +kernel
theorem dX7_keepName_28 : decode cX7_keepName 28 = .ok (.aload_n 0, 1) := by decide +kernel
theorem dX7_keepName_29 : decode cX7_keepName 29 = .ok (.getfield 12, 3) := by decide +kernel
theorem dX7_keepName_32 : decode cX7_keepName 32 = .ok (.getfield 196, 3) := by decide +kernel
theorem dX7_keepName_35 : decode cX7_keepName 35 = .ok (.aload_n 0, 1) := by decide +kernel
theorem dX7_keepName_36 : decode cX7_keepName 36 = .ok (.getfield 12, 3) := by decide +kernel
theorem dX7_keepName_39 : decode cX7_keepName 39 = .ok (.getfield 65, 3) := by decide +kernel
theorem dX7_keepName_42 : decode cX7_keepName 42 = .ok (.isub, 1) := by decide +kernel
theorem dX7_keepName_43 : decode cX7_keepName 43 = .ok (.iastore, 1) := by decide +kernel
theorem dX7_keepName_44 : decode cX7_keepName 44 = .ok (.return_, 1) := by decide +kernel
theorem dX7_indexNamed_0 : decode cX7_indexNamed 0 = .ok (.iconst 0, 1) := by decide +kernel
theorem dX7_indexNamed_1 : decode cX7_indexNamed 1 = .ok (.istore_n 2, 1) := by decide +kernel
theorem dX7_indexNamed_2 : decode cX7_indexNamed 2 = .ok (.iload_n 2, 1) := by decide +kernel
theorem dX7_indexNamed_3 : decode cX7_indexNamed 3 = .ok (.iload_n 1, 1) := by decide +kernel
theorem dX7_indexNamed_4 : decode cX7_indexNamed 4 = .ok (.if_icmp .ge 39, 3) := by decide +kernel
theorem dX7_indexNamed_7 : decode cX7_indexNamed 7 = .ok (.iload_n 2, 1) := by decide +kernel
theorem dX7_indexNamed_8 : decode cX7_indexNamed 8 = .ok (.bipush 6, 2) := by decide +kernel
theorem dX7_indexNamed_10 : decode cX7_indexNamed 10 = .ok (.if_icmp .ge 33, 3) := by decide +kernel
theorem dX7_indexNamed_13 : decode cX7_indexNamed 13 = .ok (.aload_n 0, 1) := by decide +kernel
theorem dX7_indexNamed_14 : decode cX7_indexNamed 14 = .ok (.getfield 12, 3) := by decide +kernel
theorem dX7_indexNamed_17 : decode cX7_indexNamed 17 = .ok (.aload_n 0, 1) := by decide +kernel
theorem dX7_indexNamed_18 : decode cX7_indexNamed 18 = .ok (.getfield 25, 3) := by decide +kernel
theorem dX7_indexNamed_21 : decode cX7_indexNamed 21 = .ok (.iload_n 2, 1) := by decide +kernel
theorem dX7_indexNamed_22 : decode cX7_indexNamed 22 = .ok (.iaload, 1) := by decide +kernel
theorem dX7_indexNamed_23 : decode cX7_indexNamed 23 = .ok (.aload_n 0, 1) := by decide +kernel
theorem dX7_indexNamed_24 : decode cX7_indexNamed 24 = .ok (.getfield 29, 3) := by decide +kernel
theorem dX7_indexNamed_27 : decode cX7_indexNamed 27 = .ok (.iload_n 2, 1) := by decide +kernel
theorem dX7_indexNamed_28 : decode cX7_indexNamed 28 = .ok (.iaload, 1) := by decide +kernel
theorem dX7_indexNamed_29 : decode cX7_indexNamed 29 = .ok (.invokevirtual 199, 3) := by decide +kernel
theorem dX7_indexNamed_32 : decode cX7_indexNamed 32 = .ok (.ifCond .eq 5, 3) := by decide +kernel
theorem dX7_indexNamed_35 : decode cX7_indexNamed 35 = .ok (.iload_n 2, 1) := by decide +kernel
theorem dX7_indexNamed_36 : decode cX7_indexNamed 36 = .ok (.ireturn, 1) := by decide +kernel
theorem dX7_indexNamed_37 : decode cX7_indexNamed 37 = .ok (.iinc 2 1, 3) := by decide +kernel
theorem dX7_indexNamed_40 : decode cX7_indexNamed 40 = .ok (.goto (-38), 3) := by decide +kernel
theorem dX7_indexNamed_43 : decode cX7_indexNamed 43 = .ok (.iconst (-1), 1) := by decide +kernel
theorem dX7_indexNamed_44 : decode cX7_indexNamed 44 = .ok (.ireturn, 1) := by decide +kernel
theorem dX8_init_0 : decode cX8_init 0 = .ok (.aload_n 0, 1) := by decide +kernel
theorem dX8_init_1 : decode cX8_init 1 = .ok (.invokespecial 1, 3) := by decide +kernel
theorem dX8_init_4 : decode cX8_init 4 = .ok (.aload_n 0, 1) := by decide +kernel
theorem dX8_init_5 : decode cX8_init 5 = .ok (.new 7, 3) := by decide +kernel
theorem dX8_init_8 : decode cX8_init 8 = .ok (.dup, 1) := by decide +kernel
theorem dX8_init_9 : decode cX8_init 9 = .ok (.invokespecial 9, 3) := by decide +kernel
theorem dX8_init_12 : decode cX8_init 12 = .ok (.putfield 10, 3) := by decide +kernel
theorem dX8_init_15 : decode cX8_init 15 = .ok (.aload_n 0, 1) := by decide +kernel
theorem dX8_init_16 : decode cX8_init 16 = .ok (.new 16, 3) := by decide +kernel
theorem dX8_init_19 : decode cX8_init 19 = .ok (.dup, 1) := by decide +kernel
theorem dX8_init_20 : decode cX8_init 20 = .ok (.invokespecial 18, 3) := by decide +kernel
theorem dX8_init_23 : decode cX8_init 23 = .ok (.putfield 19, 3) := by decide +kernel
theorem dX8_init_26 : decode cX8_init 26 = .ok (.aload_n 0, 1) := by decide +kernel
theorem dX8_init_27 : decode cX8_init 27 = .ok (.new 23, 3) := by decide +kernel
theorem dX8_init_30 : decode cX8_init 30 = .ok (.dup, 1) := by decide +kernel
theorem dX8_init_31 : decode cX8_init 31 = .ok (.invokespecial 25, 3) := by decide +kernel
theorem dX8_init_34 : decode cX8_init 34 = .ok (.putfield 26, 3) := by decide +kernel
theorem dX8_init_37 : decode cX8_init 37 = .ok (.aload_n 0, 1) := by decide +kernel
theorem dX8_init_38 : decode cX8_init 38 = .ok (.new 30, 3) := by decide +kernel
theorem dX8_init_41 : decode cX8_init 41 = .ok (.dup, 1) := by decide +kernel
theorem dX8_init_42 : decode cX8_init 42 = .ok (.invokespecial 32, 3) := by decide +kernel
theorem dX8_init_45 : decode cX8_init 45 = .ok (.putfield 33, 3) := by decide +kernel
theorem dX8_init_48 : decode cX8_init 48 = .ok (.return_, 1) := by decide +kernel
theorem dX8_feed_0 : decode cX8_feed 0 = .ok (.aload_n 0, 1) := by decide +kernel
theorem dX8_feed_1 : decode cX8_feed 1 = .ok (.getfield 10, 3) := by decide +kernel
theorem dX8_feed_4 : decode cX8_feed 4 = .ok (.getfield 37, 3) := by decide +kernel
theorem dX8_feed_7 : decode cX8_feed 7 = .ok (.astore 6, 2) := by decide +kernel
theorem dX8_feed_9 : decode cX8_feed 9 = .ok (.aload 6, 2) := by decide +kernel
theorem dX8_feed_11 : decode cX8_feed 11 = .ok (.getfield 41, 3) := by decide +kernel
theorem dX8_feed_14 : decode cX8_feed 14 = .ok (.bipush 20, 2) := by decide +kernel
theorem dX8_feed_16 : decode cX8_feed 16 = .ok (.iadd, 1) := by decide +kernel
theorem dX8_feed_17 : decode cX8_feed 17 = .ok (.sipush 740, 3) := by decide +kernel
theorem dX8_feed_20 : decode cX8_feed 20 = .ok (.if_icmp .le 5, 3) := by decide +kernel
theorem dX8_feed_23 : decode cX8_feed 23 = .ok (.iconst (-1), 1) := by decide +kernel
theorem dX8_feed_24 : decode cX8_feed 24 = .ok (.ireturn, 1) := by decide +kernel
theorem dX8_feed_25 : decode cX8_feed 25 = .ok (.aload 6, 2) := by decide +kernel
theorem dX8_feed_27 : decode cX8_feed 27 = .ok (.iload_n 1, 1) := by decide +kernel
theorem dX8_feed_28 : decode cX8_feed 28 = .ok (.invokevirtual 47, 3) := by decide +kernel
theorem dX8_feed_31 : decode cX8_feed 31 = .ok (.aload 6, 2) := by decide +kernel
theorem dX8_feed_33 : decode cX8_feed 33 = .ok (.iload_n 2, 1) := by decide +kernel
theorem dX8_feed_34 : decode cX8_feed 34 = .ok (.invokevirtual 47, 3) := by decide +kernel
theorem dX8_feed_37 : decode cX8_feed 37 = .ok (.aload 6, 2) := by decide +kernel
theorem dX8_feed_39 : decode cX8_feed 39 = .ok (.iload_n 3, 1) := by decide +kernel
theorem dX8_feed_40 : decode cX8_feed 40 = .ok (.invokevirtual 47, 3) := by decide +kernel
theorem dX8_feed_43 : decode cX8_feed 43 = .ok (.aload 6, 2) := by decide +kernel
theorem dX8_feed_45 : decode cX8_feed 45 = .ok (.iload 4, 2) := by decide +kernel
theorem dX8_feed_47 : decode cX8_feed 47 = .ok (.invokevirtual 47, 3) := by decide +kernel
theorem dX8_feed_50 : decode cX8_feed 50 = .ok (.aload 6, 2) := by decide +kernel
theorem dX8_feed_52 : decode cX8_feed 52 = .ok (.iload 5, 2) := by decide +kernel
theorem dX8_feed_54 : decode cX8_feed 54 = .ok (.invokevirtual 47, 3) := by decide +kernel
theorem dX8_feed_57 : decode cX8_feed 57 = .ok (.aload 6, 2) := by decide +kernel
theorem dX8_feed_59 : decode cX8_feed 59 = .ok (.getfield 41, 3) := by decide +kernel
theorem dX8_feed_62 : decode cX8_feed 62 = .ok (.ireturn, 1) := by decide +kernel
theorem dX8_end_0 : decode cX8_end 0 = .ok (.iload_n 1, 1) := by decide +kernel
theorem dX8_end_1 : decode cX8_end 1 = .ok (.ifCond .lt 17, 3) := by decide +kernel
theorem dX8_end_4 : decode cX8_end 4 = .ok (.iload_n 1, 1) := by decide +kernel
theorem dX8_end_5 : decode cX8_end 5 = .ok (.aload_n 0, 1) := by decide +kernel
theorem dX8_end_6 : decode cX8_end 6 = .ok (.getfield 10, 3) := by decide +kernel
theorem dX8_end_9 : decode cX8_end 9 = .ok (.getfield 37, 3) := by decide +kernel
theorem dX8_end_12 : decode cX8_end 12 = .ok (.getfield 41, 3) := by decide +kernel
theorem dX8_end_15 : decode cX8_end 15 = .ok (.if_icmp .le 5, 3) := by decide +kernel
theorem dX8_end_18 : decode cX8_end 18 = .ok (.iconst 0, 1) := by decide +kernel
theorem dX8_end_19 : decode cX8_end 19 = .ok (.ireturn, 1) := by decide +kernel
theorem dX8_end_20 : decode cX8_end 20 = .ok (.aload_n 0, 1) := by decide +kernel
theorem dX8_end_21 : decode cX8_end 21 = .ok (.getfield 10, 3) := by decide +kernel
theorem dX8_end_24 : decode cX8_end 24 = .ok (.getfield 37, 3) := by decide +kernel
theorem dX8_end_27 : decode cX8_end 27 = .ok (.iload_n 1, 1) := by decide +kernel
theorem dX8_end_28 : decode cX8_end 28 = .ok (.putfield 41, 3) := by decide +kernel
theorem dX8_end_31 : decode cX8_end 31 = .ok (.iconst 1, 1) := by decide +kernel
theorem dX8_end_32 : decode cX8_end 32 = .ok (.ireturn, 1) := by decide +kernel
theorem dX8_text_0 : decode cX8_text 0 = .ok (.aload_n 0, 1) := by decide +kernel
theorem dX8_text_1 : decode cX8_text 1 = .ok (.getfield 10, 3) := by decide +kernel
theorem dX8_text_4 : decode cX8_text 4 = .ok (.invokevirtual 51, 3) := by decide +kernel
theorem dX8_text_7 : decode cX8_text 7 = .ok (.istore_n 1, 1) := by decide +kernel
theorem dX8_text_8 : decode cX8_text 8 = .ok (.aload_n 0, 1) := by decide +kernel
theorem dX8_text_9 : decode cX8_text 9 = .ok (.getfield 10, 3) := by decide +kernel
theorem dX8_text_12 : decode cX8_text 12 = .ok (.getfield 37, 3) := by decide +kernel
theorem dX8_text_15 : decode cX8_text 15 = .ok (.iconst 0, 1) := by decide +kernel
theorem dX8_text_16 : decode cX8_text 16 = .ok (.putfield 41, 3) := by decide +kernel
theorem dX8_text_19 : decode cX8_text 19 = .ok (.iload_n 1, 1) := by decide +kernel
theorem dX8_text_20 : decode cX8_text 20 = .ok (.ifCond .ge 5, 3) := by decide +kernel
theorem dX8_text_23 : decode cX8_text 23 = .ok (.iload_n 1, 1) := by decide +kernel
theorem dX8_text_24 : decode cX8_text 24 = .ok (.ireturn, 1) := by decide +kernel
theorem dX8_text_25 : decode cX8_text 25 = .ok (.aload_n 0, 1) := by decide +kernel
theorem dX8_text_26 : decode cX8_text 26 = .ok (.aload_n 0, 1) := by decide +kernel
theorem dX8_text_27 : decode cX8_text 27 = .ok (.getfield 10, 3) := by decide +kernel
theorem dX8_text_30 : decode cX8_text 30 = .ok (.aload_n 0, 1) := by decide +kernel
theorem dX8_text_31 : decode cX8_text 31 = .ok (.getfield 19, 3) := by decide +kernel
theorem dX8_text_34 : decode cX8_text 34 = .ok (.invokevirtual 55, 3) := by decide +kernel
theorem dX8_text_37 : decode cX8_text 37 = .ok (.putfield 19, 3) := by decide +kernel
theorem dX8_text_40 : decode cX8_text 40 = .ok (.aload_n 0, 1) := by decide +kernel
theorem dX8_text_41 : decode cX8_text 41 = .ok (.getfield 26, 3) := by decide +kernel
theorem dX8_text_44 : decode cX8_text 44 = .ok (.iconst 0, 1) := by decide +kernel
theorem dX8_text_45 : decode cX8_text 45 = .ok (.putfield 59, 3) := by decide +kernel
theorem dX8_text_48 : decode cX8_text 48 = .ok (.aload_n 0, 1) := by decide +kernel
theorem dX8_text_49 : decode cX8_text 49 = .ok (.getfield 33, 3) := by decide +kernel
theorem dX8_text_52 : decode cX8_text 52 = .ok (.invokevirtual 62, 3) := by decide +kernel
theorem dX8_text_55 : decode cX8_text 55 = .ok (.iload_n 1, 1) := by decide +kernel
theorem dX8_text_56 : decode cX8_text 56 = .ok (.ireturn, 1) := by decide +kernel
theorem dX8_fault_0 : decode cX8_fault 0 = .ok (.aload_n 0, 1) := by decide +kernel
theorem dX8_fault_1 : decode cX8_fault 1 = .ok (.getfield 10, 3) := by decide +kernel
theorem dX8_fault_4 : decode cX8_fault 4 = .ok (.getfield 65, 3) := by decide +kernel
theorem dX8_fault_7 : decode cX8_fault 7 = .ok (.ireturn, 1) := by decide +kernel
theorem dX8_now_0 : decode cX8_now 0 = .ok (.iload_n 1, 1) := by decide +kernel
theorem dX8_now_1 : decode cX8_now 1 = .ok (.tableswitch 102 0 6 #[43, 51, 59, 67, 75, 83, 91], 43) := by decide +kernel
theorem dX8_now_44 : decode cX8_now 44 = .ok (.aload_n 0, 1) := by decide +kernel
theorem dX8_now_45 : decode cX8_now 45 = .ok (.getfield 19, 3) := by decide +kernel
theorem dX8_now_48 : decode cX8_now 48 = .ok (.getfield 68, 3) := by decide +kernel
theorem dX8_now_51 : decode cX8_now 51 = .ok (.ireturn, 1) := by decide +kernel
theorem dX8_now_52 : decode cX8_now 52 = .ok (.aload_n 0, 1) := by decide +kernel
theorem dX8_now_53 : decode cX8_now 53 = .ok (.getfield 19, 3) := by decide +kernel
theorem dX8_now_56 : decode cX8_now 56 = .ok (.getfield 71, 3) := by decide +kernel
theorem dX8_now_59 : decode cX8_now 59 = .ok (.ireturn, 1) := by decide +kernel
theorem dX8_now_60 : decode cX8_now 60 = .ok (.aload_n 0, 1) := by decide +kernel
theorem dX8_now_61 : decode cX8_now 61 = .ok (.getfield 19, 3) := by decide +kernel
theorem dX8_now_64 : decode cX8_now 64 = .ok (.getfield 74, 3) := by decide +kernel
theorem dX8_now_67 : decode cX8_now 67 = .ok (.ireturn, 1) := by decide +kernel
theorem dX8_now_68 : decode cX8_now 68 = .ok (.aload_n 0, 1) := by decide +kernel
theorem dX8_now_69 : decode cX8_now 69 = .ok (.getfield 26, 3) := by decide +kernel
theorem dX8_now_72 : decode cX8_now 72 = .ok (.getfield 59, 3) := by decide +kernel
theorem dX8_now_75 : decode cX8_now 75 = .ok (.ireturn, 1) := by decide +kernel
theorem dX8_now_76 : decode cX8_now 76 = .ok (.aload_n 0, 1) := by decide +kernel
theorem dX8_now_77 : decode cX8_now 77 = .ok (.getfield 26, 3) := by decide +kernel
theorem dX8_now_80 : decode cX8_now 80 = .ok (.invokevirtual 77, 3) := by decide +kernel
theorem dX8_now_83 : decode cX8_now 83 = .ok (.ireturn, 1) := by decide +kernel
theorem dX8_now_84 : decode cX8_now 84 = .ok (.aload_n 0, 1) := by decide +kernel
theorem dX8_now_85 : decode cX8_now 85 = .ok (.getfield 33, 3) := by decide +kernel
theorem dX8_now_88 : decode cX8_now 88 = .ok (.getfield 80, 3) := by decide +kernel
theorem dX8_now_91 : decode cX8_now 91 = .ok (.ireturn, 1) := by decide +kernel
theorem dX8_now_92 : decode cX8_now 92 = .ok (.aload_n 0, 1) := by decide +kernel
theorem dX8_now_93 : decode cX8_now 93 = .ok (.getfield 10, 3) := by decide +kernel
theorem dX8_now_96 : decode cX8_now 96 = .ok (.getfield 37, 3) := by decide +kernel
theorem dX8_now_99 : decode cX8_now 99 = .ok (.getfield 41, 3) := by decide +kernel
theorem dX8_now_102 : decode cX8_now 102 = .ok (.ireturn, 1) := by decide +kernel
theorem dX8_now_103 : decode cX8_now 103 = .ok (.iconst (-1), 1) := by decide +kernel
theorem dX8_now_104 : decode cX8_now 104 = .ok (.ireturn, 1) := by decide +kernel
theorem dX8_value_0 : decode cX8_value 0 = .ok (.aload_n 0, 1) := by decide +kernel
theorem dX8_value_1 : decode cX8_value 1 = .ok (.getfield 19, 3) := by decide +kernel
theorem dX8_value_4 : decode cX8_value 4 = .ok (.iload_n 1, 1) := by decide +kernel
theorem dX8_value_5 : decode cX8_value 5 = .ok (.invokevirtual 83, 3) := by decide +kernel
theorem dX8_value_8 : decode cX8_value 8 = .ok (.astore 4, 2) := by decide +kernel
theorem dX8_value_10 : decode cX8_value 10 = .ok (.aload 4, 2) := by decide +kernel
theorem dX8_value_12 : decode cX8_value 12 = .ok (.ifnull 10, 3) := by decide +kernel
theorem dX8_value_15 : decode cX8_value 15 = .ok (.iload_n 2, 1) := by decide +kernel
theorem dX8_value_16 : decode cX8_value 16 = .ok (.invokestatic 87, 3) := by decide +kernel
theorem dX8_value_19 : decode cX8_value 19 = .ok (.ifCond .ne 5, 3) := by decide +kernel
theorem dX8_value_22 : decode cX8_value 22 = .ok (.iconst (-1), 1) := by decide +kernel
theorem dX8_value_23 : decode cX8_value 23 = .ok (.ireturn, 1) := by decide +kernel
theorem dX8_value_24 : decode cX8_value 24 = .ok (.iload_n 3, 1) := by decide +kernel
theorem dX8_value_25 : decode cX8_value 25 = .ok (.tableswitch 64 0 3 #[31, 38, 45, 57], 31) := by decide +kernel
theorem dX8_value_56 : decode cX8_value 56 = .ok (.aload 4, 2) := by decide +kernel
theorem dX8_value_58 : decode cX8_value 58 = .ok (.iload_n 2, 1) := by decide +kernel
theorem dX8_value_59 : decode cX8_value 59 = .ok (.invokevirtual 91, 3) := by decide +kernel
theorem dX8_value_62 : decode cX8_value 62 = .ok (.ireturn, 1) := by decide +kernel
theorem dX8_value_63 : decode cX8_value 63 = .ok (.aload 4, 2) := by decide +kernel
theorem dX8_value_65 : decode cX8_value 65 = .ok (.iload_n 2, 1) := by decide +kernel
theorem dX8_value_66 : decode cX8_value 66 = .ok (.invokevirtual 97, 3) := by decide +kernel
theorem dX8_value_69 : decode cX8_value 69 = .ok (.ireturn, 1) := by decide +kernel
theorem dX8_value_70 : decode cX8_value 70 = .ok (.aload 4, 2) := by decide +kernel
theorem dX8_value_72 : decode cX8_value 72 = .ok (.aload 4, 2) := by decide +kernel
theorem dX8_value_74 : decode cX8_value 74 = .ok (.iload_n 2, 1) := by decide +kernel
theorem dX8_value_75 : decode cX8_value 75 = .ok (.invokevirtual 100, 3) := by decide +kernel
theorem dX8_value_78 : decode cX8_value 78 = .ok (.invokevirtual 91, 3) := by decide +kernel
theorem dX8_value_81 : decode cX8_value 81 = .ok (.ireturn, 1) := by decide +kernel
theorem dX8_value_82 : decode cX8_value 82 = .ok (.aload 4, 2) := by decide +kernel
theorem dX8_value_84 : decode cX8_value 84 = .ok (.iload_n 2, 1) := by decide +kernel
theorem dX8_value_85 : decode cX8_value 85 = .ok (.invokevirtual 100, 3) := by decide +kernel
theorem dX8_value_88 : decode cX8_value 88 = .ok (.ireturn, 1) := by decide +kernel
theorem dX8_value_89 : decode cX8_value 89 = .ok (.iconst (-1), 1) := by decide +kernel
theorem dX8_value_90 : decode cX8_value 90 = .ok (.ireturn, 1) := by decide +kernel
theorem dX8_rebased_0 : decode cX8_rebased 0 = .ok (.aload_n 0, 1) := by decide +kernel
theorem dX8_rebased_1 : decode cX8_rebased 1 = .ok (.getfield 19, 3) := by decide +kernel
theorem dX8_rebased_4 : decode cX8_rebased 4 = .ok (.iload_n 1, 1) := by decide +kernel
theorem dX8_rebased_5 : decode cX8_rebased 5 = .ok (.invokevirtual 83, 3) := by decide +kernel
theorem dX8_rebased_8 : decode cX8_rebased 8 = .ok (.astore 4, 2) := by decide +kernel
theorem dX8_rebased_10 : decode cX8_rebased 10 = .ok (.aload 4, 2) := by decide +kernel
theorem dX8_rebased_12 : decode cX8_rebased 12 = .ok (.ifnull 12, 3) := by decide +kernel
theorem dX8_rebased_15 : decode cX8_rebased 15 = .ok (.aload 4, 2) := by decide +kernel
theorem dX8_rebased_17 : decode cX8_rebased 17 = .ok (.iload_n 2, 1) := by decide +kernel
theorem dX8_rebased_18 : decode cX8_rebased 18 = .ok (.invokevirtual 103, 3) := by decide +kernel
theorem dX8_rebased_21 : decode cX8_rebased 21 = .ok (.ifCond .ne 5, 3) := by decide +kernel
theorem dX8_rebased_24 : decode cX8_rebased 24 = .ok (.iconst (-1), 1) := by decide +kernel
theorem dX8_rebased_25 : decode cX8_rebased 25 = .ok (.ireturn, 1) := by decide +kernel
theorem dX8_rebased_26 : decode cX8_rebased 26 = .ok (.iload_n 3, 1) := by decide +kernel
theorem dX8_rebased_27 : decode cX8_rebased 27 = .ok (.tableswitch 49 0 2 #[25, 33, 41], 25) := by decide +kernel
theorem dX8_rebased_52 : decode cX8_rebased 52 = .ok (.aload 4, 2) := by decide +kernel
theorem dX8_rebased_54 : decode cX8_rebased 54 = .ok (.getfield 106, 3) := by decide +kernel
theorem dX8_rebased_57 : decode cX8_rebased 57 = .ok (.iload_n 2, 1) := by decide +kernel
theorem dX8_rebased_58 : decode cX8_rebased 58 = .ok (.iaload, 1) := by decide +kernel
theorem dX8_rebased_59 : decode cX8_rebased 59 = .ok (.ireturn, 1) := by decide +kernel
theorem dX8_rebased_60 : decode cX8_rebased 60 = .ok (.aload 4, 2) := by decide +kernel
theorem dX8_rebased_62 : decode cX8_rebased 62 = .ok (.getfield 110, 3) := by decide +kernel
theorem dX8_rebased_65 : decode cX8_rebased 65 = .ok (.iload_n 2, 1) := by decide +kernel
theorem dX8_rebased_66 : decode cX8_rebased 66 = .ok (.iaload, 1) := by decide +kernel
theorem dX8_rebased_67 : decode cX8_rebased 67 = .ok (.ireturn, 1) := by decide +kernel
theorem dX8_rebased_68 : decode cX8_rebased 68 = .ok (.aload 4, 2) := by decide +kernel
theorem dX8_rebased_70 : decode cX8_rebased 70 = .ok (.getfield 113, 3) := by decide +kernel
theorem dX8_rebased_73 : decode cX8_rebased 73 = .ok (.iload_n 2, 1) := by decide +kernel
theorem dX8_rebased_74 : decode cX8_rebased 74 = .ok (.iaload, 1) := by decide +kernel
theorem dX8_rebased_75 : decode cX8_rebased 75 = .ok (.ireturn, 1) := by decide +kernel
theorem dX8_rebased_76 : decode cX8_rebased 76 = .ok (.iconst (-1), 1) := by decide +kernel
theorem dX8_rebased_77 : decode cX8_rebased 77 = .ok (.ireturn, 1) := by decide +kernel
theorem dX8_ratio_0 : decode cX8_ratio 0 = .ok (.aload_n 0, 1) := by decide +kernel
theorem dX8_ratio_1 : decode cX8_ratio 1 = .ok (.getfield 19, 3) := by decide +kernel
theorem dX8_ratio_4 : decode cX8_ratio 4 = .ok (.iload_n 1, 1) := by decide +kernel
theorem dX8_ratio_5 : decode cX8_ratio 5 = .ok (.invokevirtual 83, 3) := by decide +kernel
theorem dX8_ratio_8 : decode cX8_ratio 8 = .ok (.astore 4, 2) := by decide +kernel
theorem dX8_ratio_10 : decode cX8_ratio 10 = .ok (.aload 4, 2) := by decide +kernel
theorem dX8_ratio_12 : decode cX8_ratio 12 = .ok (.ifnull 26, 3) := by decide +kernel
theorem dX8_ratio_15 : decode cX8_ratio 15 = .ok (.iload_n 2, 1) := by decide +kernel
theorem dX8_ratio_16 : decode cX8_ratio 16 = .ok (.iload_n 3, 1) := by decide +kernel
theorem dX8_ratio_17 : decode cX8_ratio 17 = .ok (.if_icmp .gt 21, 3) := by decide +kernel
theorem dX8_ratio_20 : decode cX8_ratio 20 = .ok (.aload 4, 2) := by decide +kernel
theorem dX8_ratio_22 : decode cX8_ratio 22 = .ok (.iload_n 2, 1) := by decide +kernel
theorem dX8_ratio_23 : decode cX8_ratio 23 = .ok (.invokevirtual 116, 3) := by decide +kernel
theorem dX8_ratio_26 : decode cX8_ratio 26 = .ok (.ifCond .eq 12, 3) := by decide +kernel
theorem dX8_ratio_29 : decode cX8_ratio 29 = .ok (.aload 4, 2) := by decide +kernel
theorem dX8_ratio_31 : decode cX8_ratio 31 = .ok (.iload_n 3, 1) := by decide +kernel
theorem dX8_ratio_32 : decode cX8_ratio 32 = .ok (.invokevirtual 116, 3) := by decide +kernel
theorem dX8_ratio_35 : decode cX8_ratio 35 = .ok (.ifCond .ne 11, 3) := by decide +kernel
theorem dX8_ratio_38 : decode cX8_ratio 38 = .ok (.new 119, 3) := by decide +kernel
theorem dX8_ratio_41 : decode cX8_ratio 41 = .ok (.dup, 1) := by decide +kernel
theorem dX8_ratio_42 : decode cX8_ratio 42 = .ok (.invokespecial 121, 3) := by decide +kernel
theorem dX8_ratio_45 : decode cX8_ratio 45 = .ok (.athrow, 1) := by decide +kernel
theorem dX8_ratio_46 : decode cX8_ratio 46 = .ok (.aload 4, 2) := by decide +kernel
theorem dX8_ratio_48 : decode cX8_ratio 48 = .ok (.iload_n 2, 1) := by decide +kernel
theorem dX8_ratio_49 : decode cX8_ratio 49 = .ok (.iload_n 3, 1) := by decide +kernel
theorem dX8_ratio_50 : decode cX8_ratio 50 = .ok (.invokevirtual 122, 3) := by decide +kernel
theorem dX8_ratio_53 : decode cX8_ratio 53 = .ok (.ireturn, 1) := by decide +kernel
theorem dX8_contract_0 : decode cX8_contract 0 = .ok (.aload_n 0, 1) := by decide +kernel
theorem dX8_contract_1 : decode cX8_contract 1 = .ok (.getfield 19, 3) := by decide +kernel
theorem dX8_contract_4 : decode cX8_contract 4 = .ok (.iload_n 1, 1) := by decide +kernel
theorem dX8_contract_5 : decode cX8_contract 5 = .ok (.invokevirtual 126, 3) := by decide +kernel
theorem dX8_contract_8 : decode cX8_contract 8 = .ok (.astore_n 3, 1) := by decide +kernel
theorem dX8_contract_9 : decode cX8_contract 9 = .ok (.aload_n 3, 1) := by decide +kernel
theorem dX8_contract_10 : decode cX8_contract 10 = .ok (.ifnonnull 5, 3) := by decide +kernel
theorem dX8_contract_13 : decode cX8_contract 13 = .ok (.iconst (-1), 1) := by decide +kernel
theorem dX8_contract_14 : decode cX8_contract 14 = .ok (.ireturn, 1) := by decide +kernel
theorem dX8_contract_15 : decode cX8_contract 15 = .ok (.iload_n 2, 1) := by decide +kernel
theorem dX8_contract_16 : decode cX8_contract 16 = .ok (.tableswitch 87 0 6 #[44, 49, 54, 59, 64, 69, 82], 44) := by decide +kernel
theorem dX8_contract_60 : decode cX8_contract 60 = .ok (.aload_n 3, 1) := by decide +kernel
theorem dX8_contract_61 : decode cX8_contract 61 = .ok (.getfield 130, 3) := by decide +kernel
theorem dX8_contract_64 : decode cX8_contract 64 = .ok (.ireturn, 1) := by decide +kernel
theorem dX8_contract_65 : decode cX8_contract 65 = .ok (.aload_n 3, 1) := by decide +kernel
theorem dX8_contract_66 : decode cX8_contract 66 = .ok (.getfield 135, 3) := by decide +kernel
theorem dX8_contract_69 : decode cX8_contract 69 = .ok (.ireturn, 1) := by decide +kernel
theorem dX8_contract_70 : decode cX8_contract 70 = .ok (.aload_n 3, 1) := by decide +kernel
theorem dX8_contract_71 : decode cX8_contract 71 = .ok (.getfield 138, 3) := by decide +kernel
theorem dX8_contract_74 : decode cX8_contract 74 = .ok (.ireturn, 1) := by decide +kernel
theorem dX8_contract_75 : decode cX8_contract 75 = .ok (.aload_n 3, 1) := by decide +kernel
theorem dX8_contract_76 : decode cX8_contract 76 = .ok (.getfield 141, 3) := by decide +kernel
theorem dX8_contract_79 : decode cX8_contract 79 = .ok (.ireturn, 1) := by decide +kernel
theorem dX8_contract_80 : decode cX8_contract 80 = .ok (.aload_n 3, 1) := by decide +kernel
theorem dX8_contract_81 : decode cX8_contract 81 = .ok (.getfield 144, 3) := by decide +kernel
theorem dX8_contract_84 : decode cX8_contract 84 = .ok (.ireturn, 1) := by decide +kernel
theorem dX8_contract_85 : decode cX8_contract 85 = .ok (.aload_n 3, 1) := by decide +kernel
theorem dX8_contract_86 : decode cX8_contract 86 = .ok (.getfield 147, 3) := by decide +kernel
theorem dX8_contract_89 : decode cX8_contract 89 = .ok (.ifCond .eq 7, 3) := by decide +kernel
theorem dX8_contract_92 : decode cX8_contract 92 = .ok (.iconst 1, 1) := by decide +kernel
theorem dX8_contract_93 : decode cX8_contract 93 = .ok (.goto 4, 3) := by decide +kernel
theorem dX8_contract_96 : decode cX8_contract 96 = .ok (.iconst 0, 1) := by decide +kernel
theorem dX8_contract_97 : decode cX8_contract 97 = .ok (.ireturn, 1) := by decide +kernel
theorem dX8_contract_98 : decode cX8_contract 98 = .ok (.aload_n 3, 1) := by decide +kernel
theorem dX8_contract_99 : decode cX8_contract 99 = .ok (.getfield 151, 3) := by decide +kernel
theorem dX8_contract_102 : decode cX8_contract 102 = .ok (.ireturn, 1) := by decide +kernel
theorem dX8_contract_103 : decode cX8_contract 103 = .ok (.aload_n 3, 1) := by decide +kernel
theorem dX8_contract_104 : decode cX8_contract 104 = .ok (.iload_n 2, 1) := by decide +kernel
theorem dX8_contract_105 : decode cX8_contract 105 = .ok (.bipush 7, 2) := by decide +kernel
theorem dX8_contract_107 : decode cX8_contract 107 = .ok (.isub, 1) := by decide +kernel
theorem dX8_contract_108 : decode cX8_contract 108 = .ok (.invokevirtual 154, 3) := by decide +kernel
theorem dX8_contract_111 : decode cX8_contract 111 = .ok (.ireturn, 1) := by decide +kernel
theorem dX8_price_0 : decode cX8_price 0 = .ok (.aload_n 0, 1) := by decide +kernel
theorem dX8_price_1 : decode cX8_price 1 = .ok (.getfield 19, 3) := by decide +kernel
theorem dX8_price_4 : decode cX8_price 4 = .ok (.iload_n 1, 1) := by decide +kernel
theorem dX8_price_5 : decode cX8_price 5 = .ok (.invokevirtual 126, 3) := by decide +kernel
theorem dX8_price_8 : decode cX8_price 8 = .ok (.astore 4, 2) := by decide +kernel
theorem dX8_price_10 : decode cX8_price 10 = .ok (.aload 4, 2) := by decide +kernel
theorem dX8_price_12 : decode cX8_price 12 = .ok (.ifnull 25, 3) := by decide +kernel
theorem dX8_price_15 : decode cX8_price 15 = .ok (.aload_n 0, 1) := by decide +kernel
theorem dX8_price_16 : decode cX8_price 16 = .ok (.getfield 19, 3) := by decide +kernel
theorem dX8_price_19 : decode cX8_price 19 = .ok (.aload 4, 2) := by decide +kernel
theorem dX8_price_21 : decode cX8_price 21 = .ok (.iload_n 2, 1) := by decide +kernel
theorem dX8_price_22 : decode cX8_price 22 = .ok (.invokevirtual 157, 3) := by decide +kernel
theorem dX8_price_25 : decode cX8_price 25 = .ok (.ifCond .eq 12, 3) := by decide +kernel
theorem dX8_price_28 : decode cX8_price 28 = .ok (.iload_n 3, 1) := by decide +kernel
theorem dX8_price_29 : decode cX8_price 29 = .ok (.ifCond .lt 8, 3) := by decide +kernel
theorem dX8_price_32 : decode cX8_price 32 = .ok (.iload_n 3, 1) := by decide +kernel
theorem dX8_price_33 : decode cX8_price 33 = .ok (.iconst 2, 1) := by decide +kernel
theorem dX8_price_34 : decode cX8_price 34 = .ok (.if_icmp .le 11, 3) := by decide +kernel
theorem dX8_price_37 : decode cX8_price 37 = .ok (.new 119, 3) := by decide +kernel
theorem dX8_price_40 : decode cX8_price 40 = .ok (.dup, 1) := by decide +kernel
theorem dX8_price_41 : decode cX8_price 41 = .ok (.invokespecial 121, 3) := by decide +kernel
theorem dX8_price_44 : decode cX8_price 44 = .ok (.athrow, 1) := by decide +kernel
theorem dX8_price_45 : decode cX8_price 45 = .ok (.aload_n 0, 1) := by decide +kernel
theorem dX8_price_46 : decode cX8_price 46 = .ok (.getfield 19, 3) := by decide +kernel
theorem dX8_price_49 : decode cX8_price 49 = .ok (.aload 4, 2) := by decide +kernel
theorem dX8_price_51 : decode cX8_price 51 = .ok (.iload_n 2, 1) := by decide +kernel
theorem dX8_price_52 : decode cX8_price 52 = .ok (.invokevirtual 161, 3) := by decide +kernel
theorem dX8_price_55 : decode cX8_price 55 = .ok (.istore 5, 2) := by decide +kernel
theorem dX8_price_57 : decode cX8_price 57 = .ok (.iload_n 3, 1) := by decide +kernel
theorem dX8_price_58 : decode cX8_price 58 = .ok (.ifCond .ne 6, 3) := by decide +kernel
theorem dX8_price_61 : decode cX8_price 61 = .ok (.iload 5, 2) := by decide +kernel
theorem dX8_price_63 : decode cX8_price 63 = .ok (.ireturn, 1) := by decide +kernel
theorem dX8_price_64 : decode cX8_price 64 = .ok (.aload 4, 2) := by decide +kernel
theorem dX8_price_66 : decode cX8_price 66 = .ok (.iload 5, 2) := by decide +kernel
theorem dX8_price_68 : decode cX8_price 68 = .ok (.invokevirtual 165, 3) := by decide +kernel
theorem dX8_price_71 : decode cX8_price 71 = .ok (.istore 6, 2) := by decide +kernel
theorem dX8_price_73 : decode cX8_price 73 = .ok (.iload_n 3, 1) := by decide +kernel
theorem dX8_price_74 : decode cX8_price 74 = .ok (.iconst 1, 1) := by decide +kernel
theorem dX8_price_75 : decode cX8_price 75 = .ok (.if_icmp .ne 8, 3) := by decide +kernel
theorem dX8_price_78 : decode cX8_price 78 = .ok (.iload 6, 2) := by decide +kernel
theorem dX8_price_80 : decode cX8_price 80 = .ok (.goto 10, 3) := by decide +kernel
theorem dX8_price_83 : decode cX8_price 83 = .ok (.aload 4, 2) := by decide +kernel
theorem dX8_price_85 : decode cX8_price 85 = .ok (.iload 6, 2) := by decide +kernel
theorem dX8_price_87 : decode cX8_price 87 = .ok (.invokevirtual 168, 3) := by decide +kernel
theorem dX8_price_90 : decode cX8_price 90 = .ok (.ireturn, 1) := by decide +kernel
theorem dX8_were_0 : decode cX8_were 0 = .ok (.aload_n 0, 1) := by decide +kernel
theorem dX8_were_1 : decode cX8_were 1 = .ok (.getfield 19, 3) := by decide +kernel
theorem dX8_were_4 : decode cX8_were 4 = .ok (.iload_n 1, 1) := by decide +kernel
theorem dX8_were_5 : decode cX8_were 5 = .ok (.invokevirtual 126, 3) := by decide +kernel
theorem dX8_were_8 : decode cX8_were 8 = .ok (.astore 4, 2) := by decide +kernel
theorem dX8_were_10 : decode cX8_were 10 = .ok (.aload_n 0, 1) := by decide +kernel
theorem dX8_were_11 : decode cX8_were 11 = .ok (.getfield 19, 3) := by decide +kernel
theorem dX8_were_14 : decode cX8_were 14 = .ok (.iload_n 2, 1) := by decide +kernel
theorem dX8_were_15 : decode cX8_were 15 = .ok (.invokevirtual 83, 3) := by decide +kernel
theorem dX8_were_18 : decode cX8_were 18 = .ok (.astore 5, 2) := by decide +kernel
theorem dX8_were_20 : decode cX8_were 20 = .ok (.aload 4, 2) := by decide +kernel
theorem dX8_were_22 : decode cX8_were 22 = .ok (.ifnull 15, 3) := by decide +kernel
theorem dX8_were_25 : decode cX8_were 25 = .ok (.aload 5, 2) := by decide +kernel
theorem dX8_were_27 : decode cX8_were 27 = .ok (.ifnull 10, 3) := by decide +kernel
theorem dX8_were_30 : decode cX8_were 30 = .ok (.iload_n 3, 1) := by decide +kernel
theorem dX8_were_31 : decode cX8_were 31 = .ok (.invokestatic 171, 3) := by decide +kernel
theorem dX8_were_34 : decode cX8_were 34 = .ok (.ifCond .ne 5, 3) := by decide +kernel
theorem dX8_were_37 : decode cX8_were 37 = .ok (.iconst (-1), 1) := by decide +kernel
theorem dX8_were_38 : decode cX8_were 38 = .ok (.ireturn, 1) := by decide +kernel
theorem dX8_were_39 : decode cX8_were 39 = .ok (.aload_n 0, 1) := by decide +kernel
theorem dX8_were_40 : decode cX8_were 40 = .ok (.getfield 19, 3) := by decide +kernel
theorem dX8_were_43 : decode cX8_were 43 = .ok (.aload 4, 2) := by decide +kernel
theorem dX8_were_45 : decode cX8_were 45 = .ok (.aload 5, 2) := by decide +kernel
theorem dX8_were_47 : decode cX8_were 47 = .ok (.iload_n 3, 1) := by decide +kernel
theorem dX8_were_48 : decode cX8_were 48 = .ok (.invokevirtual 174, 3) := by decide +kernel
theorem dX8_were_51 : decode cX8_were 51 = .ok (.ireturn, 1) := by decide +kernel
theorem dX8_rises_0 : decode cX8_rises 0 = .ok (.aload_n 0, 1) := by decide +kernel
theorem dX8_rises_1 : decode cX8_rises 1 = .ok (.getfield 19, 3) := by decide +kernel
theorem dX8_rises_4 : decode cX8_rises 4 = .ok (.iload_n 1, 1) := by decide +kernel
theorem dX8_rises_5 : decode cX8_rises 5 = .ok (.invokevirtual 126, 3) := by decide +kernel
theorem dX8_rises_8 : decode cX8_rises 8 = .ok (.astore_n 3, 1) := by decide +kernel
theorem dX8_rises_9 : decode cX8_rises 9 = .ok (.aload_n 0, 1) := by decide +kernel
theorem dX8_rises_10 : decode cX8_rises 10 = .ok (.getfield 19, 3) := by decide +kernel
theorem dX8_rises_13 : decode cX8_rises 13 = .ok (.iload_n 2, 1) := by decide +kernel
theorem dX8_rises_14 : decode cX8_rises 14 = .ok (.invokevirtual 83, 3) := by decide +kernel
theorem dX8_rises_17 : decode cX8_rises 17 = .ok (.astore 4, 2) := by decide +kernel
theorem dX8_rises_19 : decode cX8_rises 19 = .ok (.aload_n 3, 1) := by decide +kernel
theorem dX8_rises_20 : decode cX8_rises 20 = .ok (.ifnull 8, 3) := by decide +kernel
theorem dX8_rises_23 : decode cX8_rises 23 = .ok (.aload 4, 2) := by decide +kernel
theorem dX8_rises_25 : decode cX8_rises 25 = .ok (.ifnonnull 5, 3) := by decide +kernel
theorem dX8_rises_28 : decode cX8_rises 28 = .ok (.iconst (-1), 1) := by decide +kernel
theorem dX8_rises_29 : decode cX8_rises 29 = .ok (.ireturn, 1) := by decide +kernel
theorem dX8_rises_30 : decode cX8_rises 30 = .ok (.aload_n 0, 1) := by decide +kernel
theorem dX8_rises_31 : decode cX8_rises 31 = .ok (.getfield 19, 3) := by decide +kernel
theorem dX8_rises_34 : decode cX8_rises 34 = .ok (.aload_n 3, 1) := by decide +kernel
theorem dX8_rises_35 : decode cX8_rises 35 = .ok (.aload 4, 2) := by decide +kernel
theorem dX8_rises_37 : decode cX8_rises 37 = .ok (.sipush 999, 3) := by decide +kernel
theorem dX8_rises_40 : decode cX8_rises 40 = .ok (.invokevirtual 174, 3) := by decide +kernel
theorem dX8_rises_43 : decode cX8_rises 43 = .ok (.aload_n 3, 1) := by decide +kernel
theorem dX8_rises_44 : decode cX8_rises 44 = .ok (.getfield 130, 3) := by decide +kernel
theorem dX8_rises_47 : decode cX8_rises 47 = .ok (.if_icmp .gt 6, 3) := by decide +kernel
theorem dX8_rises_50 : decode cX8_rises 50 = .ok (.bipush (-2), 2) := by decide +kernel
theorem dX8_rises_52 : decode cX8_rises 52 = .ok (.ireturn, 1) := by decide +kernel
theorem dX8_rises_53 : decode cX8_rises 53 = .ok (.iconst 1, 1) := by decide +kernel
theorem dX8_rises_54 : decode cX8_rises 54 = .ok (.istore 5, 2) := by decide +kernel
theorem dX8_rises_56 : decode cX8_rises 56 = .ok (.sipush 999, 3) := by decide +kernel
theorem dX8_rises_59 : decode cX8_rises 59 = .ok (.istore 6, 2) := by decide +kernel
theorem dX8_rises_61 : decode cX8_rises 61 = .ok (.iconst 0, 1) := by decide +kernel
theorem dX8_rises_62 : decode cX8_rises 62 = .ok (.istore 7, 2) := by decide +kernel
theorem dX8_rises_64 : decode cX8_rises 64 = .ok (.iload 7, 2) := by decide +kernel
theorem dX8_rises_66 : decode cX8_rises 66 = .ok (.bipush 10, 2) := by decide +kernel
theorem dX8_rises_68 : decode cX8_rises 68 = .ok (.if_icmp .ge 57, 3) := by decide +kernel
theorem dX8_rises_71 : decode cX8_rises 71 = .ok (.iload 5, 2) := by decide +kernel
theorem dX8_rises_73 : decode cX8_rises 73 = .ok (.iload 6, 2) := by decide +kernel
theorem dX8_rises_75 : decode cX8_rises 75 = .ok (.if_icmp .ge 50, 3) := by decide +kernel
theorem dX8_rises_78 : decode cX8_rises 78 = .ok (.iload 5, 2) := by decide +kernel
theorem dX8_rises_80 : decode cX8_rises 80 = .ok (.iload 6, 2) := by decide +kernel
theorem dX8_rises_82 : decode cX8_rises 82 = .ok (.iadd, 1) := by decide +kernel
theorem dX8_rises_83 : decode cX8_rises 83 = .ok (.iconst 2, 1) := by decide +kernel
theorem dX8_rises_84 : decode cX8_rises 84 = .ok (.idiv, 1) := by decide +kernel
theorem dX8_rises_85 : decode cX8_rises 85 = .ok (.istore 8, 2) := by decide +kernel
theorem dX8_rises_87 : decode cX8_rises 87 = .ok (.aload_n 0, 1) := by decide +kernel
theorem dX8_rises_88 : decode cX8_rises 88 = .ok (.getfield 19, 3) := by decide +kernel
theorem dX8_rises_91 : decode cX8_rises 91 = .ok (.aload_n 3, 1) := by decide +kernel
theorem dX8_rises_92 : decode cX8_rises 92 = .ok (.aload 4, 2) := by decide +kernel
theorem dX8_rises_94 : decode cX8_rises 94 = .ok (.iload 8, 2) := by decide +kernel
theorem dX8_rises_96 : decode cX8_rises 96 = .ok (.invokevirtual 174, 3) := by decide +kernel
theorem dX8_rises_99 : decode cX8_rises 99 = .ok (.aload_n 3, 1) := by decide +kernel
theorem dX8_rises_100 : decode cX8_rises 100 = .ok (.getfield 130, 3) := by decide +kernel
theorem dX8_rises_103 : decode cX8_rises 103 = .ok (.if_icmp .le 10, 3) := by decide +kernel
theorem dX8_rises_106 : decode cX8_rises 106 = .ok (.iload 8, 2) := by decide +kernel
theorem dX8_rises_108 : decode cX8_rises 108 = .ok (.istore 6, 2) := by decide +kernel
theorem dX8_rises_110 : decode cX8_rises 110 = .ok (.goto 9, 3) := by decide +kernel
theorem dX8_rises_113 : decode cX8_rises 113 = .ok (.iload 8, 2) := by decide +kernel
theorem dX8_rises_115 : decode cX8_rises 115 = .ok (.iconst 1, 1) := by decide +kernel
theorem dX8_rises_116 : decode cX8_rises 116 = .ok (.iadd, 1) := by decide +kernel
theorem dX8_rises_117 : decode cX8_rises 117 = .ok (.istore 5, 2) := by decide +kernel
theorem dX8_rises_119 : decode cX8_rises 119 = .ok (.iinc 7 1, 3) := by decide +kernel
theorem dX8_rises_122 : decode cX8_rises 122 = .ok (.goto (-58), 3) := by decide +kernel
theorem dX8_rises_125 : decode cX8_rises 125 = .ok (.iload 6, 2) := by decide +kernel
theorem dX8_rises_127 : decode cX8_rises 127 = .ok (.ireturn, 1) := by decide +kernel
theorem dX8_delivery_0 : decode cX8_delivery 0 = .ok (.aload_n 0, 1) := by decide +kernel
theorem dX8_delivery_1 : decode cX8_delivery 1 = .ok (.getfield 26, 3) := by decide +kernel
theorem dX8_delivery_4 : decode cX8_delivery 4 = .ok (.iload_n 1, 1) := by decide +kernel
theorem dX8_delivery_5 : decode cX8_delivery 5 = .ok (.invokevirtual 178, 3) := by decide +kernel
theorem dX8_delivery_8 : decode cX8_delivery 8 = .ok (.astore_n 3, 1) := by decide +kernel
theorem dX8_delivery_9 : decode cX8_delivery 9 = .ok (.aload_n 3, 1) := by decide +kernel
theorem dX8_delivery_10 : decode cX8_delivery 10 = .ok (.ifnonnull 5, 3) := by decide +kernel
theorem dX8_delivery_13 : decode cX8_delivery 13 = .ok (.iconst (-1), 1) := by decide +kernel
theorem dX8_delivery_14 : decode cX8_delivery 14 = .ok (.ireturn, 1) := by decide +kernel
theorem dX8_delivery_15 : decode cX8_delivery 15 = .ok (.iload_n 2, 1) := by decide +kernel
theorem dX8_delivery_16 : decode cX8_delivery 16 = .ok (.tableswitch 127 0 8 #[52, 57, 62, 67, 72, 77, 82, 95, 100], 52) := by decide +kernel
theorem dX8_delivery_68 : decode cX8_delivery 68 = .ok (.aload_n 3, 1) := by decide +kernel
theorem dX8_delivery_69 : decode cX8_delivery 69 = .ok (.getfield 182, 3) := by decide +kernel
theorem dX8_delivery_72 : decode cX8_delivery 72 = .ok (.ireturn, 1) := by decide +kernel
theorem dX8_delivery_73 : decode cX8_delivery 73 = .ok (.aload_n 3, 1) := by decide +kernel
theorem dX8_delivery_74 : decode cX8_delivery 74 = .ok (.getfield 187, 3) := by decide +kernel
theorem dX8_delivery_77 : decode cX8_delivery 77 = .ok (.ireturn, 1) := by decide +kernel
theorem dX8_delivery_78 : decode cX8_delivery 78 = .ok (.aload_n 3, 1) := by decide +kernel
theorem dX8_delivery_79 : decode cX8_delivery 79 = .ok (.getfield 190, 3) := by decide +kernel
theorem dX8_delivery_82 : decode cX8_delivery 82 = .ok (.ireturn, 1) := by decide +kernel
theorem dX8_delivery_83 : decode cX8_delivery 83 = .ok (.aload_n 3, 1) := by decide +kernel
theorem dX8_delivery_84 : decode cX8_delivery 84 = .ok (.getfield 193, 3) := by decide +kernel
theorem dX8_delivery_87 : decode cX8_delivery 87 = .ok (.ireturn, 1) := by decide +kernel
theorem dX8_delivery_88 : decode cX8_delivery 88 = .ok (.aload_n 3, 1) := by decide +kernel
theorem dX8_delivery_89 : decode cX8_delivery 89 = .ok (.getfield 196, 3) := by decide +kernel
theorem dX8_delivery_92 : decode cX8_delivery 92 = .ok (.ireturn, 1) := by decide +kernel
theorem dX8_delivery_93 : decode cX8_delivery 93 = .ok (.aload_n 3, 1) := by decide +kernel
theorem dX8_delivery_94 : decode cX8_delivery 94 = .ok (.getfield 199, 3) := by decide +kernel
theorem dX8_delivery_97 : decode cX8_delivery 97 = .ok (.ireturn, 1) := by decide +kernel
theorem dX8_delivery_98 : decode cX8_delivery 98 = .ok (.aload_n 3, 1) := by decide +kernel
theorem dX8_delivery_99 : decode cX8_delivery 99 = .ok (.invokevirtual 200, 3) := by decide +kernel
theorem dX8_delivery_102 : decode cX8_delivery 102 = .ok (.ifCond .eq 7, 3) := by decide +kernel
theorem dX8_delivery_105 : decode cX8_delivery 105 = .ok (.iconst 1, 1) := by decide +kernel
theorem dX8_delivery_106 : decode cX8_delivery 106 = .ok (.goto 4, 3) := by decide +kernel
theorem dX8_delivery_109 : decode cX8_delivery 109 = .ok (.iconst 0, 1) := by decide +kernel
theorem dX8_delivery_110 : decode cX8_delivery 110 = .ok (.ireturn, 1) := by decide +kernel
theorem dX8_delivery_111 : decode cX8_delivery 111 = .ok (.aload_n 3, 1) := by decide +kernel
theorem dX8_delivery_112 : decode cX8_delivery 112 = .ok (.getfield 204, 3) := by decide +kernel
theorem dX8_delivery_115 : decode cX8_delivery 115 = .ok (.ireturn, 1) := by decide +kernel
theorem dX8_delivery_116 : decode cX8_delivery 116 = .ok (.aload_n 3, 1) := by decide +kernel
theorem dX8_delivery_117 : decode cX8_delivery 117 = .ok (.invokevirtual 200, 3) := by decide +kernel
theorem dX8_delivery_120 : decode cX8_delivery 120 = .ok (.ifCond .eq 7, 3) := by decide +kernel
theorem dX8_delivery_123 : decode cX8_delivery 123 = .ok (.iconst 0, 1) := by decide +kernel
theorem dX8_delivery_124 : decode cX8_delivery 124 = .ok (.goto 18, 3) := by decide +kernel
theorem dX8_delivery_127 : decode cX8_delivery 127 = .ok (.aload_n 0, 1) := by decide +kernel
theorem dX8_delivery_128 : decode cX8_delivery 128 = .ok (.getfield 19, 3) := by decide +kernel
theorem dX8_delivery_131 : decode cX8_delivery 131 = .ok (.aload_n 3, 1) := by decide +kernel
theorem dX8_delivery_132 : decode cX8_delivery 132 = .ok (.getfield 182, 3) := by decide +kernel
theorem dX8_delivery_135 : decode cX8_delivery 135 = .ok (.aload_n 3, 1) := by decide +kernel
theorem dX8_delivery_136 : decode cX8_delivery 136 = .ok (.getfield 196, 3) := by decide +kernel
theorem dX8_delivery_139 : decode cX8_delivery 139 = .ok (.invokevirtual 207, 3) := by decide +kernel
theorem dX8_delivery_142 : decode cX8_delivery 142 = .ok (.ireturn, 1) := by decide +kernel
theorem dX8_delivery_143 : decode cX8_delivery 143 = .ok (.iconst (-1), 1) := by decide +kernel
theorem dX8_delivery_144 : decode cX8_delivery 144 = .ok (.ireturn, 1) := by decide +kernel
theorem dX8_amount_0 : decode cX8_amount 0 = .ok (.aload_n 0, 1) := by decide +kernel
theorem dX8_amount_1 : decode cX8_amount 1 = .ok (.getfield 26, 3) := by decide +kernel
theorem dX8_amount_4 : decode cX8_amount 4 = .ok (.iload_n 1, 1) := by decide +kernel
theorem dX8_amount_5 : decode cX8_amount 5 = .ok (.invokevirtual 178, 3) := by decide +kernel
theorem dX8_amount_8 : decode cX8_amount 8 = .ok (.astore_n 3, 1) := by decide +kernel
theorem dX8_amount_9 : decode cX8_amount 9 = .ok (.aload_n 3, 1) := by decide +kernel
theorem dX8_amount_10 : decode cX8_amount 10 = .ok (.ifnull 12, 3) := by decide +kernel
theorem dX8_amount_13 : decode cX8_amount 13 = .ok (.iload_n 2, 1) := by decide +kernel
theorem dX8_amount_14 : decode cX8_amount 14 = .ok (.ifCond .lt 8, 3) := by decide +kernel
theorem dX8_amount_17 : decode cX8_amount 17 = .ok (.iload_n 2, 1) := by decide +kernel
theorem dX8_amount_18 : decode cX8_amount 18 = .ok (.iconst 2, 1) := by decide +kernel
theorem dX8_amount_19 : decode cX8_amount 19 = .ok (.if_icmp .le 11, 3) := by decide +kernel
theorem dX8_amount_22 : decode cX8_amount 22 = .ok (.new 119, 3) := by decide +kernel
theorem dX8_amount_25 : decode cX8_amount 25 = .ok (.dup, 1) := by decide +kernel
theorem dX8_amount_26 : decode cX8_amount 26 = .ok (.invokespecial 121, 3) := by decide +kernel
theorem dX8_amount_29 : decode cX8_amount 29 = .ok (.athrow, 1) := by decide +kernel
theorem dX8_amount_30 : decode cX8_amount 30 = .ok (.iload_n 2, 1) := by decide +kernel
theorem dX8_amount_31 : decode cX8_amount 31 = .ok (.ifCond .ne 8, 3) := by decide +kernel
theorem dX8_amount_34 : decode cX8_amount 34 = .ok (.aload_n 3, 1) := by decide +kernel
theorem dX8_amount_35 : decode cX8_amount 35 = .ok (.invokevirtual 210, 3) := by decide +kernel
theorem dX8_amount_38 : decode cX8_amount 38 = .ok (.lreturn, 1) := by decide +kernel
theorem dX8_amount_39 : decode cX8_amount 39 = .ok (.iload_n 2, 1) := by decide +kernel
theorem dX8_amount_40 : decode cX8_amount 40 = .ok (.iconst 1, 1) := by decide +kernel
theorem dX8_amount_41 : decode cX8_amount 41 = .ok (.if_icmp .ne 10, 3) := by decide +kernel
theorem dX8_amount_44 : decode cX8_amount 44 = .ok (.aload_n 3, 1) := by decide +kernel
theorem dX8_amount_45 : decode cX8_amount 45 = .ok (.getfield 214, 3) := by decide +kernel
theorem dX8_amount_48 : decode cX8_amount 48 = .ok (.goto 12, 3) := by decide +kernel
theorem dX8_amount_51 : decode cX8_amount 51 = .ok (.aload_n 3, 1) := by decide +kernel
theorem dX8_amount_52 : decode cX8_amount 52 = .ok (.invokevirtual 210, 3) := by decide +kernel
theorem dX8_amount_55 : decode cX8_amount 55 = .ok (.aload_n 3, 1) := by decide +kernel
theorem dX8_amount_56 : decode cX8_amount 56 = .ok (.getfield 214, 3) := by decide +kernel
theorem dX8_amount_59 : decode cX8_amount 59 = .ok (.ladd, 1) := by decide +kernel
theorem dX8_amount_60 : decode cX8_amount 60 = .ok (.lreturn, 1) := by decide +kernel
theorem dX8_statement_0 : decode cX8_statement 0 = .ok (.iload_n 1, 1) := by decide +kernel
theorem dX8_statement_1 : decode cX8_statement 1 = .ok (.invokestatic 87, 3) := by decide +kernel
theorem dX8_statement_4 : decode cX8_statement 4 = .ok (.ifCond .eq 12, 3) := by decide +kernel
theorem dX8_statement_7 : decode cX8_statement 7 = .ok (.iload_n 2, 1) := by decide +kernel
theorem dX8_statement_8 : decode cX8_statement 8 = .ok (.ifCond .lt 8, 3) := by decide +kernel
theorem dX8_statement_11 : decode cX8_statement 11 = .ok (.iload_n 2, 1) := by decide +kernel
theorem dX8_statement_12 : decode cX8_statement 12 = .ok (.iconst 3, 1) := by decide +kernel
theorem dX8_statement_13 : decode cX8_statement 13 = .ok (.if_icmp .le 11, 3) := by decide +kernel
theorem dX8_statement_16 : decode cX8_statement 16 = .ok (.new 119, 3) := by decide +kernel
theorem dX8_statement_19 : decode cX8_statement 19 = .ok (.dup, 1) := by decide +kernel
theorem dX8_statement_20 : decode cX8_statement 20 = .ok (.invokespecial 121, 3) := by decide +kernel
theorem dX8_statement_23 : decode cX8_statement 23 = .ok (.athrow, 1) := by decide +kernel
theorem dX8_statement_24 : decode cX8_statement 24 = .ok (.iload_n 2, 1) := by decide +kernel
theorem dX8_statement_25 : decode cX8_statement 25 = .ok (.ifCond .ne 13, 3) := by decide +kernel
theorem dX8_statement_28 : decode cX8_statement 28 = .ok (.aload_n 0, 1) := by decide +kernel
theorem dX8_statement_29 : decode cX8_statement 29 = .ok (.getfield 26, 3) := by decide +kernel
theorem dX8_statement_32 : decode cX8_statement 32 = .ok (.iload_n 1, 1) := by decide +kernel
theorem dX8_statement_33 : decode cX8_statement 33 = .ok (.iload_n 1, 1) := by decide +kernel
theorem dX8_statement_34 : decode cX8_statement 34 = .ok (.invokevirtual 218, 3) := by decide +kernel
theorem dX8_statement_37 : decode cX8_statement 37 = .ok (.lreturn, 1) := by decide +kernel
theorem dX8_statement_38 : decode cX8_statement 38 = .ok (.iload_n 2, 1) := by decide +kernel
theorem dX8_statement_39 : decode cX8_statement 39 = .ok (.iconst 1, 1) := by decide +kernel
theorem dX8_statement_40 : decode cX8_statement 40 = .ok (.if_icmp .ne 13, 3) := by decide +kernel
theorem dX8_statement_43 : decode cX8_statement 43 = .ok (.aload_n 0, 1) := by decide +kernel
theorem dX8_statement_44 : decode cX8_statement 44 = .ok (.getfield 26, 3) := by decide +kernel
theorem dX8_statement_47 : decode cX8_statement 47 = .ok (.iload_n 1, 1) := by decide +kernel
theorem dX8_statement_48 : decode cX8_statement 48 = .ok (.iload_n 1, 1) := by decide +kernel
theorem dX8_statement_49 : decode cX8_statement 49 = .ok (.invokevirtual 222, 3) := by decide +kernel
theorem dX8_statement_52 : decode cX8_statement 52 = .ok (.lreturn, 1) := by decide +kernel
theorem dX8_statement_53 : decode cX8_statement 53 = .ok (.iload_n 2, 1) := by decide +kernel
theorem dX8_statement_54 : decode cX8_statement 54 = .ok (.iconst 2, 1) := by decide +kernel
theorem dX8_statement_55 : decode cX8_statement 55 = .ok (.if_icmp .ne 7, 3) := by decide +kernel
theorem dX8_statement_58 : decode cX8_statement 58 = .ok (.iload_n 1, 1) := by decide +kernel
theorem dX8_statement_59 : decode cX8_statement 59 = .ok (.goto 4, 3) := by decide +kernel
theorem dX8_statement_62 : decode cX8_statement 62 = .ok (.iconst 0, 1) := by decide +kernel
theorem dX8_statement_63 : decode cX8_statement 63 = .ok (.istore_n 3, 1) := by decide +kernel
theorem dX8_statement_64 : decode cX8_statement 64 = .ok (.aload_n 0, 1) := by decide +kernel
theorem dX8_statement_65 : decode cX8_statement 65 = .ok (.getfield 26, 3) := by decide +kernel
theorem dX8_statement_68 : decode cX8_statement 68 = .ok (.iload_n 3, 1) := by decide +kernel
theorem dX8_statement_69 : decode cX8_statement 69 = .ok (.iload_n 1, 1) := by decide +kernel
theorem dX8_statement_70 : decode cX8_statement 70 = .ok (.invokevirtual 218, 3) := by decide +kernel
theorem dX8_statement_73 : decode cX8_statement 73 = .ok (.aload_n 0, 1) := by decide +kernel
theorem dX8_statement_74 : decode cX8_statement 74 = .ok (.getfield 26, 3) := by decide +kernel
theorem dX8_statement_77 : decode cX8_statement 77 = .ok (.iload_n 3, 1) := by decide +kernel
theorem dX8_statement_78 : decode cX8_statement 78 = .ok (.iload_n 1, 1) := by decide +kernel
theorem dX8_statement_79 : decode cX8_statement 79 = .ok (.invokevirtual 222, 3) := by decide +kernel
theorem dX8_statement_82 : decode cX8_statement 82 = .ok (.ladd, 1) := by decide +kernel
theorem dX8_statement_83 : decode cX8_statement 83 = .ok (.lreturn, 1) := by decide +kernel
theorem dX8_publish_0 : decode cX8_publish 0 = .ok (.aload_n 0, 1) := by decide +kernel
theorem dX8_publish_1 : decode cX8_publish 1 = .ok (.getfield 19, 3) := by decide +kernel
theorem dX8_publish_4 : decode cX8_publish 4 = .ok (.iload_n 1, 1) := by decide +kernel
theorem dX8_publish_5 : decode cX8_publish 5 = .ok (.invokevirtual 83, 3) := by decide +kernel
theorem dX8_publish_8 : decode cX8_publish 8 = .ok (.astore 5, 2) := by decide +kernel
theorem dX8_publish_10 : decode cX8_publish 10 = .ok (.aload 5, 2) := by decide +kernel
theorem dX8_publish_12 : decode cX8_publish 12 = .ok (.ifnull 21, 3) := by decide +kernel
theorem dX8_publish_15 : decode cX8_publish 15 = .ok (.aload_n 0, 1) := by decide +kernel
theorem dX8_publish_16 : decode cX8_publish 16 = .ok (.getfield 19, 3) := by decide +kernel
theorem dX8_publish_19 : decode cX8_publish 19 = .ok (.iload_n 2, 1) := by decide +kernel
theorem dX8_publish_20 : decode cX8_publish 20 = .ok (.invokevirtual 225, 3) := by decide +kernel
theorem dX8_publish_23 : decode cX8_publish 23 = .ok (.ifCond .eq 10, 3) := by decide +kernel
theorem dX8_publish_26 : decode cX8_publish 26 = .ok (.iload_n 3, 1) := by decide +kernel
theorem dX8_publish_27 : decode cX8_publish 27 = .ok (.invokestatic 171, 3) := by decide +kernel
theorem dX8_publish_30 : decode cX8_publish 30 = .ok (.ifCond .ne 5, 3) := by decide +kernel
theorem dX8_publish_33 : decode cX8_publish 33 = .ok (.iconst (-1), 1) := by decide +kernel
theorem dX8_publish_34 : decode cX8_publish 34 = .ok (.ireturn, 1) := by decide +kernel
theorem dX8_publish_35 : decode cX8_publish 35 = .ok (.aload 5, 2) := by decide +kernel
theorem dX8_publish_37 : decode cX8_publish 37 = .ok (.iload_n 2, 1) := by decide +kernel
theorem dX8_publish_38 : decode cX8_publish 38 = .ok (.invokevirtual 97, 3) := by decide +kernel
theorem dX8_publish_41 : decode cX8_publish 41 = .ok (.istore 6, 2) := by decide +kernel
theorem dX8_publish_43 : decode cX8_publish 43 = .ok (.iload 6, 2) := by decide +kernel
theorem dX8_publish_45 : decode cX8_publish 45 = .ok (.iconst 2, 1) := by decide +kernel
theorem dX8_publish_46 : decode cX8_publish 46 = .ok (.if_icmp .ne 6, 3) := by decide +kernel
theorem dX8_publish_49 : decode cX8_publish 49 = .ok (.bipush (-2), 2) := by decide +kernel
theorem dX8_publish_51 : decode cX8_publish 51 = .ok (.ireturn, 1) := by decide +kernel
theorem dX8_publish_52 : decode cX8_publish 52 = .ok (.aload 5, 2) := by decide +kernel
theorem dX8_publish_54 : decode cX8_publish 54 = .ok (.invokevirtual 228, 3) := by decide +kernel
theorem dX8_publish_57 : decode cX8_publish 57 = .ok (.iload_n 2, 1) := by decide +kernel
theorem dX8_publish_58 : decode cX8_publish 58 = .ok (.if_icmp .lt 6, 3) := by decide +kernel
theorem dX8_publish_61 : decode cX8_publish 61 = .ok (.bipush (-3), 2) := by decide +kernel
theorem dX8_publish_63 : decode cX8_publish 63 = .ok (.ireturn, 1) := by decide +kernel
theorem dX8_publish_64 : decode cX8_publish 64 = .ok (.iload 6, 2) := by decide +kernel
theorem dX8_publish_66 : decode cX8_publish 66 = .ok (.ifCond .ne 7, 3) := by decide +kernel
theorem dX8_publish_69 : decode cX8_publish 69 = .ok (.iconst 0, 1) := by decide +kernel
theorem dX8_publish_70 : decode cX8_publish 70 = .ok (.goto 9, 3) := by decide +kernel
theorem dX8_publish_73 : decode cX8_publish 73 = .ok (.aload 5, 2) := by decide +kernel
theorem dX8_publish_75 : decode cX8_publish 75 = .ok (.iload_n 2, 1) := by decide +kernel
theorem dX8_publish_76 : decode cX8_publish 76 = .ok (.invokevirtual 91, 3) := by decide +kernel
theorem dX8_publish_79 : decode cX8_publish 79 = .ok (.istore 7, 2) := by decide +kernel
theorem dX8_publish_81 : decode cX8_publish 81 = .ok (.aload_n 0, 1) := by decide +kernel
theorem dX8_publish_82 : decode cX8_publish 82 = .ok (.getfield 33, 3) := by decide +kernel
theorem dX8_publish_85 : decode cX8_publish 85 = .ok (.iconst 0, 1) := by decide +kernel
theorem dX8_publish_86 : decode cX8_publish 86 = .ok (.iload_n 1, 1) := by decide +kernel
theorem dX8_publish_87 : decode cX8_publish 87 = .ok (.iload_n 2, 1) := by decide +kernel
theorem dX8_publish_88 : decode cX8_publish 88 = .ok (.iload 7, 2) := by decide +kernel
theorem dX8_publish_90 : decode cX8_publish 90 = .ok (.iload 6, 2) := by decide +kernel
theorem dX8_publish_92 : decode cX8_publish 92 = .ok (.invokevirtual 231, 3) := by decide +kernel
theorem dX8_publish_95 : decode cX8_publish 95 = .ok (.aload 5, 2) := by decide +kernel
theorem dX8_publish_97 : decode cX8_publish 97 = .ok (.iload_n 2, 1) := by decide +kernel
theorem dX8_publish_98 : decode cX8_publish 98 = .ok (.iload_n 3, 1) := by decide +kernel
theorem dX8_publish_99 : decode cX8_publish 99 = .ok (.iload 4, 2) := by decide +kernel
theorem dX8_publish_101 : decode cX8_publish 101 = .ok (.ifCond .eq 7, 3) := by decide +kernel
theorem dX8_publish_104 : decode cX8_publish 104 = .ok (.iconst 2, 1) := by decide +kernel
theorem dX8_publish_105 : decode cX8_publish 105 = .ok (.goto 4, 3) := by decide +kernel
theorem dX8_publish_108 : decode cX8_publish 108 = .ok (.iconst 1, 1) := by decide +kernel
theorem dX8_publish_109 : decode cX8_publish 109 = .ok (.invokevirtual 235, 3) := by decide +kernel
theorem dX8_publish_112 : decode cX8_publish 112 = .ok (.iload 7, 2) := by decide +kernel
theorem dX8_publish_114 : decode cX8_publish 114 = .ok (.ireturn, 1) := by decide +kernel
theorem dX8_rebase_0 : decode cX8_rebase 0 = .ok (.aload_n 0, 1) := by decide +kernel
theorem dX8_rebase_1 : decode cX8_rebase 1 = .ok (.getfield 19, 3) := by decide +kernel
theorem dX8_rebase_4 : decode cX8_rebase 4 = .ok (.iload_n 1, 1) := by decide +kernel
theorem dX8_rebase_5 : decode cX8_rebase 5 = .ok (.invokevirtual 83, 3) := by decide +kernel
theorem dX8_rebase_8 : decode cX8_rebase 8 = .ok (.astore 4, 2) := by decide +kernel
theorem dX8_rebase_10 : decode cX8_rebase 10 = .ok (.aload 4, 2) := by decide +kernel
theorem dX8_rebase_12 : decode cX8_rebase 12 = .ok (.ifnull 21, 3) := by decide +kernel
theorem dX8_rebase_15 : decode cX8_rebase 15 = .ok (.aload_n 0, 1) := by decide +kernel
theorem dX8_rebase_16 : decode cX8_rebase 16 = .ok (.getfield 19, 3) := by decide +kernel
theorem dX8_rebase_19 : decode cX8_rebase 19 = .ok (.iload_n 2, 1) := by decide +kernel
theorem dX8_rebase_20 : decode cX8_rebase 20 = .ok (.invokevirtual 225, 3) := by decide +kernel
theorem dX8_rebase_23 : decode cX8_rebase 23 = .ok (.ifCond .eq 10, 3) := by decide +kernel
theorem dX8_rebase_26 : decode cX8_rebase 26 = .ok (.iload_n 3, 1) := by decide +kernel
theorem dX8_rebase_27 : decode cX8_rebase 27 = .ok (.invokestatic 171, 3) := by decide +kernel
theorem dX8_rebase_30 : decode cX8_rebase 30 = .ok (.ifCond .ne 5, 3) := by decide +kernel
theorem dX8_rebase_33 : decode cX8_rebase 33 = .ok (.iconst (-1), 1) := by decide +kernel
theorem dX8_rebase_34 : decode cX8_rebase 34 = .ok (.ireturn, 1) := by decide +kernel
theorem dX8_rebase_35 : decode cX8_rebase 35 = .ok (.aload 4, 2) := by decide +kernel
theorem dX8_rebase_37 : decode cX8_rebase 37 = .ok (.iload_n 2, 1) := by decide +kernel
theorem dX8_rebase_38 : decode cX8_rebase 38 = .ok (.invokevirtual 97, 3) := by decide +kernel
theorem dX8_rebase_41 : decode cX8_rebase 41 = .ok (.iconst 2, 1) := by decide +kernel
theorem dX8_rebase_42 : decode cX8_rebase 42 = .ok (.if_icmp .eq 6, 3) := by decide +kernel
theorem dX8_rebase_45 : decode cX8_rebase 45 = .ok (.bipush (-2), 2) := by decide +kernel
theorem dX8_rebase_47 : decode cX8_rebase 47 = .ok (.ireturn, 1) := by decide +kernel
theorem dX8_rebase_48 : decode cX8_rebase 48 = .ok (.aload 4, 2) := by decide +kernel
theorem dX8_rebase_50 : decode cX8_rebase 50 = .ok (.invokevirtual 228, 3) := by decide +kernel
theorem dX8_rebase_53 : decode cX8_rebase 53 = .ok (.iload_n 2, 1) := by decide +kernel
theorem dX8_rebase_54 : decode cX8_rebase 54 = .ok (.if_icmp .ge 14, 3) := by decide +kernel
theorem dX8_rebase_57 : decode cX8_rebase 57 = .ok (.aload 4, 2) := by decide +kernel
theorem dX8_rebase_59 : decode cX8_rebase 59 = .ok (.bipush 35, 2) := by decide +kernel
theorem dX8_rebase_61 : decode cX8_rebase 61 = .ok (.invokevirtual 100, 3) := by decide +kernel
theorem dX8_rebase_64 : decode cX8_rebase 64 = .ok (.iload_n 2, 1) := by decide +kernel
theorem dX8_rebase_65 : decode cX8_rebase 65 = .ok (.if_icmp .le 6, 3) := by decide +kernel
theorem dX8_rebase_68 : decode cX8_rebase 68 = .ok (.bipush (-3), 2) := by decide +kernel
theorem dX8_rebase_70 : decode cX8_rebase 70 = .ok (.ireturn, 1) := by decide +kernel
theorem dX8_rebase_71 : decode cX8_rebase 71 = .ok (.aload 4, 2) := by decide +kernel
theorem dX8_rebase_73 : decode cX8_rebase 73 = .ok (.getfield 239, 3) := by decide +kernel
theorem dX8_rebase_76 : decode cX8_rebase 76 = .ok (.iconst 3, 1) := by decide +kernel
theorem dX8_rebase_77 : decode cX8_rebase 77 = .ok (.if_icmp .lt 6, 3) := by decide +kernel
theorem dX8_rebase_80 : decode cX8_rebase 80 = .ok (.bipush (-4), 2) := by decide +kernel
theorem dX8_rebase_82 : decode cX8_rebase 82 = .ok (.ireturn, 1) := by decide +kernel
theorem dX8_rebase_83 : decode cX8_rebase 83 = .ok (.aload 4, 2) := by decide +kernel
theorem dX8_rebase_85 : decode cX8_rebase 85 = .ok (.iload_n 2, 1) := by decide +kernel
theorem dX8_rebase_86 : decode cX8_rebase 86 = .ok (.iload_n 3, 1) := by decide +kernel
theorem dX8_rebase_87 : decode cX8_rebase 87 = .ok (.invokevirtual 242, 3) := by decide +kernel
theorem dX8_rebase_90 : decode cX8_rebase 90 = .ok (.aload_n 0, 1) := by decide +kernel
theorem dX8_rebase_91 : decode cX8_rebase 91 = .ok (.getfield 33, 3) := by decide +kernel
theorem dX8_rebase_94 : decode cX8_rebase 94 = .ok (.iconst 1, 1) := by decide +kernel
theorem dX8_rebase_95 : decode cX8_rebase 95 = .ok (.iload_n 1, 1) := by decide +kernel
theorem dX8_rebase_96 : decode cX8_rebase 96 = .ok (.iload_n 2, 1) := by decide +kernel
theorem dX8_rebase_97 : decode cX8_rebase 97 = .ok (.iconst 0, 1) := by decide +kernel
theorem dX8_rebase_98 : decode cX8_rebase 98 = .ok (.iconst 0, 1) := by decide +kernel
theorem dX8_rebase_99 : decode cX8_rebase 99 = .ok (.invokevirtual 231, 3) := by decide +kernel
theorem dX8_rebase_102 : decode cX8_rebase 102 = .ok (.aload 4, 2) := by decide +kernel
theorem dX8_rebase_104 : decode cX8_rebase 104 = .ok (.getfield 239, 3) := by decide +kernel
theorem dX8_rebase_107 : decode cX8_rebase 107 = .ok (.ireturn, 1) := by decide +kernel
theorem dX8_deliver_0 : decode cX8_deliver 0 = .ok (.aload_n 0, 1) := by decide +kernel
theorem dX8_deliver_1 : decode cX8_deliver 1 = .ok (.getfield 19, 3) := by decide +kernel
theorem dX8_deliver_4 : decode cX8_deliver 4 = .ok (.iload_n 1, 1) := by decide +kernel
theorem dX8_deliver_5 : decode cX8_deliver 5 = .ok (.invokevirtual 126, 3) := by decide +kernel
theorem dX8_deliver_8 : decode cX8_deliver 8 = .ok (.astore 4, 2) := by decide +kernel
theorem dX8_deliver_10 : decode cX8_deliver 10 = .ok (.aload 4, 2) := by decide +kernel
theorem dX8_deliver_12 : decode cX8_deliver 12 = .ok (.ifnull 28, 3) := by decide +kernel
theorem dX8_deliver_15 : decode cX8_deliver 15 = .ok (.aload_n 0, 1) := by decide +kernel
theorem dX8_deliver_16 : decode cX8_deliver 16 = .ok (.getfield 19, 3) := by decide +kernel
theorem dX8_deliver_19 : decode cX8_deliver 19 = .ok (.aload 4, 2) := by decide +kernel
theorem dX8_deliver_21 : decode cX8_deliver 21 = .ok (.iload_n 2, 1) := by decide +kernel
theorem dX8_deliver_22 : decode cX8_deliver 22 = .ok (.invokevirtual 157, 3) := by decide +kernel
theorem dX8_deliver_25 : decode cX8_deliver 25 = .ok (.ifCond .eq 15, 3) := by decide +kernel
theorem dX8_deliver_28 : decode cX8_deliver 28 = .ok (.iload_n 3, 1) := by decide +kernel
theorem dX8_deliver_29 : decode cX8_deliver 29 = .ok (.iconst 1, 1) := by decide +kernel
theorem dX8_deliver_30 : decode cX8_deliver 30 = .ok (.if_icmp .lt 10, 3) := by decide +kernel
theorem dX8_deliver_33 : decode cX8_deliver 33 = .ok (.iload_n 3, 1) := by decide +kernel
theorem dX8_deliver_34 : decode cX8_deliver 34 = .ok (.sipush 999, 3) := by decide +kernel
theorem dX8_deliver_37 : decode cX8_deliver 37 = .ok (.if_icmp .le 5, 3) := by decide +kernel
theorem dX8_deliver_40 : decode cX8_deliver 40 = .ok (.iconst (-1), 1) := by decide +kernel
theorem dX8_deliver_41 : decode cX8_deliver 41 = .ok (.ireturn, 1) := by decide +kernel
theorem dX8_deliver_42 : decode cX8_deliver 42 = .ok (.aload_n 0, 1) := by decide +kernel
theorem dX8_deliver_43 : decode cX8_deliver 43 = .ok (.getfield 26, 3) := by decide +kernel
theorem dX8_deliver_46 : decode cX8_deliver 46 = .ok (.invokevirtual 246, 3) := by decide +kernel
theorem dX8_deliver_49 : decode cX8_deliver 49 = .ok (.astore 5, 2) := by decide +kernel
theorem dX8_deliver_51 : decode cX8_deliver 51 = .ok (.aload 5, 2) := by decide +kernel
theorem dX8_deliver_53 : decode cX8_deliver 53 = .ok (.ifnonnull 6, 3) := by decide +kernel
theorem dX8_deliver_56 : decode cX8_deliver 56 = .ok (.bipush (-2), 2) := by decide +kernel
theorem dX8_deliver_58 : decode cX8_deliver 58 = .ok (.ireturn, 1) := by decide +kernel
theorem dX8_deliver_59 : decode cX8_deliver 59 = .ok (.aload 5, 2) := by decide +kernel
theorem dX8_deliver_61 : decode cX8_deliver 61 = .ok (.iload_n 1, 1) := by decide +kernel
theorem dX8_deliver_62 : decode cX8_deliver 62 = .ok (.iload_n 2, 1) := by decide +kernel
theorem dX8_deliver_63 : decode cX8_deliver 63 = .ok (.aload_n 0, 1) := by decide +kernel
theorem dX8_deliver_64 : decode cX8_deliver 64 = .ok (.getfield 19, 3) := by decide +kernel
theorem dX8_deliver_67 : decode cX8_deliver 67 = .ok (.getfield 68, 3) := by decide +kernel
theorem dX8_deliver_70 : decode cX8_deliver 70 = .ok (.iload_n 3, 1) := by decide +kernel
theorem dX8_deliver_71 : decode cX8_deliver 71 = .ok (.invokevirtual 250, 3) := by decide +kernel
theorem dX8_deliver_74 : decode cX8_deliver 74 = .ok (.aload 5, 2) := by decide +kernel
theorem dX8_deliver_76 : decode cX8_deliver 76 = .ok (.aload_n 0, 1) := by decide +kernel
theorem dX8_deliver_77 : decode cX8_deliver 77 = .ok (.getfield 19, 3) := by decide +kernel
theorem dX8_deliver_80 : decode cX8_deliver 80 = .ok (.aload 4, 2) := by decide +kernel
theorem dX8_deliver_82 : decode cX8_deliver 82 = .ok (.iload_n 2, 1) := by decide +kernel
theorem dX8_deliver_83 : decode cX8_deliver 83 = .ok (.invokevirtual 254, 3) := by decide +kernel
theorem dX8_deliver_86 : decode cX8_deliver 86 = .ok (.aload_n 0, 1) := by decide +kernel
theorem dX8_deliver_87 : decode cX8_deliver 87 = .ok (.getfield 19, 3) := by decide +kernel
theorem dX8_deliver_90 : decode cX8_deliver 90 = .ok (.aload 4, 2) := by decide +kernel
theorem dX8_deliver_92 : decode cX8_deliver 92 = .ok (.aload_n 0, 1) := by decide +kernel
theorem dX8_deliver_93 : decode cX8_deliver 93 = .ok (.getfield 19, 3) := by decide +kernel
theorem dX8_deliver_96 : decode cX8_deliver 96 = .ok (.getfield 68, 3) := by decide +kernel
theorem dX8_deliver_99 : decode cX8_deliver 99 = .ok (.invokevirtual 254, 3) := by decide +kernel
theorem dX8_deliver_102 : decode cX8_deliver 102 = .ok (.invokevirtual 257, 3) := by decide +kernel
theorem dX8_deliver_105 : decode cX8_deliver 105 = .ok (.aload_n 0, 1) := by decide +kernel
theorem dX8_deliver_106 : decode cX8_deliver 106 = .ok (.getfield 33, 3) := by decide +kernel
theorem dX8_deliver_109 : decode cX8_deliver 109 = .ok (.iconst 2, 1) := by decide +kernel
theorem dX8_deliver_110 : decode cX8_deliver 110 = .ok (.iconst 0, 1) := by decide +kernel
theorem dX8_deliver_111 : decode cX8_deliver 111 = .ok (.iconst 0, 1) := by decide +kernel
theorem dX8_deliver_112 : decode cX8_deliver 112 = .ok (.iconst 0, 1) := by decide +kernel
theorem dX8_deliver_113 : decode cX8_deliver 113 = .ok (.iconst 0, 1) := by decide +kernel
theorem dX8_deliver_114 : decode cX8_deliver 114 = .ok (.invokevirtual 231, 3) := by decide +kernel
theorem dX8_deliver_117 : decode cX8_deliver 117 = .ok (.aload_n 0, 1) := by decide +kernel
theorem dX8_deliver_118 : decode cX8_deliver 118 = .ok (.getfield 26, 3) := by decide +kernel
theorem dX8_deliver_121 : decode cX8_deliver 121 = .ok (.getfield 59, 3) := by decide +kernel
theorem dX8_deliver_124 : decode cX8_deliver 124 = .ok (.iconst 1, 1) := by decide +kernel
theorem dX8_deliver_125 : decode cX8_deliver 125 = .ok (.isub, 1) := by decide +kernel
theorem dX8_deliver_126 : decode cX8_deliver 126 = .ok (.ireturn, 1) := by decide +kernel
theorem dX8_close_0 : decode cX8_close 0 = .ok (.aload_n 0, 1) := by decide +kernel
theorem dX8_close_1 : decode cX8_close 1 = .ok (.getfield 19, 3) := by decide +kernel
theorem dX8_close_4 : decode cX8_close 4 = .ok (.getfield 68, 3) := by decide +kernel
theorem dX8_close_7 : decode cX8_close 7 = .ok (.bipush 35, 2) := by decide +kernel
theorem dX8_close_9 : decode cX8_close 9 = .ok (.if_icmp .lt 5, 3) := by decide +kernel
theorem dX8_close_12 : decode cX8_close 12 = .ok (.iconst (-1), 1) := by decide +kernel
theorem dX8_close_13 : decode cX8_close 13 = .ok (.ireturn, 1) := by decide +kernel
theorem dX8_close_14 : decode cX8_close 14 = .ok (.aload_n 0, 1) := by decide +kernel
theorem dX8_close_15 : decode cX8_close 15 = .ok (.getfield 26, 3) := by decide +kernel
theorem dX8_close_18 : decode cX8_close 18 = .ok (.aload_n 0, 1) := by decide +kernel
theorem dX8_close_19 : decode cX8_close 19 = .ok (.getfield 19, 3) := by decide +kernel
theorem dX8_close_22 : decode cX8_close 22 = .ok (.invokevirtual 260, 3) := by decide +kernel
theorem dX8_close_25 : decode cX8_close 25 = .ok (.istore_n 1, 1) := by decide +kernel
theorem dX8_close_26 : decode cX8_close 26 = .ok (.aload_n 0, 1) := by decide +kernel
theorem dX8_close_27 : decode cX8_close 27 = .ok (.getfield 19, 3) := by decide +kernel
theorem dX8_close_30 : decode cX8_close 30 = .ok (.dup, 1) := by decide +kernel
theorem dX8_close_31 : decode cX8_close 31 = .ok (.getfield 68, 3) := by decide +kernel
theorem dX8_close_34 : decode cX8_close 34 = .ok (.iconst 1, 1) := by decide +kernel
theorem dX8_close_35 : decode cX8_close 35 = .ok (.iadd, 1) := by decide +kernel
theorem dX8_close_36 : decode cX8_close 36 = .ok (.putfield 68, 3) := by decide +kernel
theorem dX8_close_39 : decode cX8_close 39 = .ok (.aload_n 0, 1) := by decide +kernel
theorem dX8_close_40 : decode cX8_close 40 = .ok (.getfield 33, 3) := by decide +kernel
theorem dX8_close_43 : decode cX8_close 43 = .ok (.iconst 3, 1) := by decide +kernel
theorem dX8_close_44 : decode cX8_close 44 = .ok (.iconst 0, 1) := by decide +kernel
theorem dX8_close_45 : decode cX8_close 45 = .ok (.iconst 0, 1) := by decide +kernel
theorem dX8_close_46 : decode cX8_close 46 = .ok (.iconst 0, 1) := by decide +kernel
theorem dX8_close_47 : decode cX8_close 47 = .ok (.iconst 0, 1) := by decide +kernel
theorem dX8_close_48 : decode cX8_close 48 = .ok (.invokevirtual 231, 3) := by decide +kernel
theorem dX8_close_51 : decode cX8_close 51 = .ok (.iload_n 1, 1) := by decide +kernel
theorem dX8_close_52 : decode cX8_close 52 = .ok (.ireturn, 1) := by decide +kernel
theorem dX8_undo_0 : decode cX8_undo 0 = .ok (.aload_n 0, 1) := by decide +kernel
theorem dX8_undo_1 : decode cX8_undo 1 = .ok (.getfield 33, 3) := by decide +kernel
theorem dX8_undo_4 : decode cX8_undo 4 = .ok (.invokevirtual 264, 3) := by decide +kernel
theorem dX8_undo_7 : decode cX8_undo 7 = .ok (.istore_n 1, 1) := by decide +kernel
theorem dX8_undo_8 : decode cX8_undo 8 = .ok (.iload_n 1, 1) := by decide +kernel
theorem dX8_undo_9 : decode cX8_undo 9 = .ok (.ifCond .lt 9, 3) := by decide +kernel
theorem dX8_undo_12 : decode cX8_undo 12 = .ok (.iload_n 1, 1) := by decide +kernel
theorem dX8_undo_13 : decode cX8_undo 13 = .ok (.bipush 8, 2) := by decide +kernel
theorem dX8_undo_15 : decode cX8_undo 15 = .ok (.if_icmp .lt 5, 3) := by decide +kernel
theorem dX8_undo_18 : decode cX8_undo 18 = .ok (.iconst (-1), 1) := by decide +kernel
theorem dX8_undo_19 : decode cX8_undo 19 = .ok (.ireturn, 1) := by decide +kernel
theorem dX8_undo_20 : decode cX8_undo 20 = .ok (.aload_n 0, 1) := by decide +kernel
theorem dX8_undo_21 : decode cX8_undo 21 = .ok (.getfield 33, 3) := by decide +kernel
theorem dX8_undo_24 : decode cX8_undo 24 = .ok (.getfield 267, 3) := by decide +kernel
theorem dX8_undo_27 : decode cX8_undo 27 = .ok (.iload_n 1, 1) := by decide +kernel
theorem dX8_undo_28 : decode cX8_undo 28 = .ok (.iaload, 1) := by decide +kernel
theorem dX8_undo_29 : decode cX8_undo 29 = .ok (.tableswitch 53 0 2 #[27, 35, 43], 27) := by decide +kernel
theorem dX8_undo_56 : decode cX8_undo 56 = .ok (.aload_n 0, 1) := by decide +kernel
theorem dX8_undo_57 : decode cX8_undo 57 = .ok (.iload_n 1, 1) := by decide +kernel
theorem dX8_undo_58 : decode cX8_undo 58 = .ok (.invokevirtual 270, 3) := by decide +kernel
theorem dX8_undo_61 : decode cX8_undo 61 = .ok (.goto 25, 3) := by decide +kernel
theorem dX8_undo_64 : decode cX8_undo 64 = .ok (.aload_n 0, 1) := by decide +kernel
theorem dX8_undo_65 : decode cX8_undo 65 = .ok (.iload_n 1, 1) := by decide +kernel
theorem dX8_undo_66 : decode cX8_undo 66 = .ok (.invokevirtual 273, 3) := by decide +kernel
theorem dX8_undo_69 : decode cX8_undo 69 = .ok (.goto 17, 3) := by decide +kernel
theorem dX8_undo_72 : decode cX8_undo 72 = .ok (.aload_n 0, 1) := by decide +kernel
theorem dX8_undo_73 : decode cX8_undo 73 = .ok (.getfield 26, 3) := by decide +kernel
theorem dX8_undo_76 : decode cX8_undo 76 = .ok (.invokevirtual 276, 3) := by decide +kernel
theorem dX8_undo_79 : decode cX8_undo 79 = .ok (.goto 7, 3) := by decide +kernel
theorem dX8_undo_82 : decode cX8_undo 82 = .ok (.aload_n 0, 1) := by decide +kernel
theorem dX8_undo_83 : decode cX8_undo 83 = .ok (.invokevirtual 279, 3) := by decide +kernel
theorem dX8_undo_86 : decode cX8_undo 86 = .ok (.aload_n 0, 1) := by decide +kernel
theorem dX8_undo_87 : decode cX8_undo 87 = .ok (.getfield 33, 3) := by decide +kernel
theorem dX8_undo_90 : decode cX8_undo 90 = .ok (.getfield 80, 3) := by decide +kernel
theorem dX8_undo_93 : decode cX8_undo 93 = .ok (.ireturn, 1) := by decide +kernel
theorem dX8_takeBackValue_0 : decode cX8_takeBackValue 0 = .ok (.aload_n 0, 1) := by decide +kernel
theorem dX8_takeBackValue_1 : decode cX8_takeBackValue 1 = .ok (.getfield 19, 3) := by decide +kernel
theorem dX8_takeBackValue_4 : decode cX8_takeBackValue 4 = .ok (.aload_n 0, 1) := by decide +kernel
theorem dX8_takeBackValue_5 : decode cX8_takeBackValue 5 = .ok (.getfield 33, 3) := by decide +kernel
theorem dX8_takeBackValue_8 : decode cX8_takeBackValue 8 = .ok (.getfield 282, 3) := by decide +kernel
theorem dX8_takeBackValue_11 : decode cX8_takeBackValue 11 = .ok (.iload_n 1, 1) := by decide +kernel
theorem dX8_takeBackValue_12 : decode cX8_takeBackValue 12 = .ok (.iaload, 1) := by decide +kernel
theorem dX8_takeBackValue_13 : decode cX8_takeBackValue 13 = .ok (.invokevirtual 83, 3) := by decide +kernel
theorem dX8_takeBackValue_16 : decode cX8_takeBackValue 16 = .ok (.astore_n 2, 1) := by decide +kernel
theorem dX8_takeBackValue_17 : decode cX8_takeBackValue 17 = .ok (.aload_n 2, 1) := by decide +kernel
theorem dX8_takeBackValue_18 : decode cX8_takeBackValue 18 = .ok (.ifnull 34, 3) := by decide +kernel
theorem dX8_takeBackValue_21 : decode cX8_takeBackValue 21 = .ok (.aload_n 2, 1) := by decide +kernel
theorem dX8_takeBackValue_22 : decode cX8_takeBackValue 22 = .ok (.aload_n 0, 1) := by decide +kernel
theorem dX8_takeBackValue_23 : decode cX8_takeBackValue 23 = .ok (.getfield 33, 3) := by decide +kernel
theorem dX8_takeBackValue_26 : decode cX8_takeBackValue 26 = .ok (.getfield 285, 3) := by decide +kernel
theorem dX8_takeBackValue_29 : decode cX8_takeBackValue 29 = .ok (.iload_n 1, 1) := by decide +kernel
theorem dX8_takeBackValue_30 : decode cX8_takeBackValue 30 = .ok (.iaload, 1) := by decide +kernel
theorem dX8_takeBackValue_31 : decode cX8_takeBackValue 31 = .ok (.aload_n 0, 1) := by decide +kernel
theorem dX8_takeBackValue_32 : decode cX8_takeBackValue 32 = .ok (.getfield 33, 3) := by decide +kernel
theorem dX8_takeBackValue_35 : decode cX8_takeBackValue 35 = .ok (.getfield 288, 3) := by decide +kernel
theorem dX8_takeBackValue_38 : decode cX8_takeBackValue 38 = .ok (.iload_n 1, 1) := by decide +kernel
theorem dX8_takeBackValue_39 : decode cX8_takeBackValue 39 = .ok (.iaload, 1) := by decide +kernel
theorem dX8_takeBackValue_40 : decode cX8_takeBackValue 40 = .ok (.aload_n 0, 1) := by decide +kernel
theorem dX8_takeBackValue_41 : decode cX8_takeBackValue 41 = .ok (.getfield 33, 3) := by decide +kernel
theorem dX8_takeBackValue_44 : decode cX8_takeBackValue 44 = .ok (.getfield 291, 3) := by decide +kernel
theorem dX8_takeBackValue_47 : decode cX8_takeBackValue 47 = .ok (.iload_n 1, 1) := by decide +kernel
theorem dX8_takeBackValue_48 : decode cX8_takeBackValue 48 = .ok (.iaload, 1) := by decide +kernel
theorem dX8_takeBackValue_49 : decode cX8_takeBackValue 49 = .ok (.invokevirtual 235, 3) := by decide +kernel
theorem dX8_takeBackValue_52 : decode cX8_takeBackValue 52 = .ok (.return_, 1) := by decide +kernel
theorem dX8_takeBackRebasing_0 : decode cX8_takeBackRebasing 0 = .ok (.aload_n 0, 1) := by decide +kernel
theorem dX8_takeBackRebasing_1 : decode cX8_takeBackRebasing 1 = .ok (.getfield 19, 3) := by decide +kernel
theorem dX8_takeBackRebasing_4 : decode cX8_takeBackRebasing 4 = .ok (.aload_n 0, 1) := by decide +kernel
theorem dX8_takeBackRebasing_5 : decode cX8_takeBackRebasing 5 = .ok (.getfield 33, 3) := by decide +kernel
theorem dX8_takeBackRebasing_8 : decode cX8_takeBackRebasing 8 = .ok (.getfield 282, 3) := by decide +kernel
theorem dX8_takeBackRebasing_11 : decode cX8_takeBackRebasing 11 = .ok (.iload_n 1, 1) := by decide +kernel
theorem dX8_takeBackRebasing_12 : decode cX8_takeBackRebasing 12 = .ok (.iaload, 1) := by decide +kernel
theorem dX8_takeBackRebasing_13 : decode cX8_takeBackRebasing 13 = .ok (.invokevirtual 83, 3) := by decide +kernel
theorem dX8_takeBackRebasing_16 : decode cX8_takeBackRebasing 16 = .ok (.astore_n 2, 1) := by decide +kernel
theorem dX8_takeBackRebasing_17 : decode cX8_takeBackRebasing 17 = .ok (.aload_n 2, 1) := by decide +kernel
theorem dX8_takeBackRebasing_18 : decode cX8_takeBackRebasing 18 = .ok (.ifnull 20, 3) := by decide +kernel
theorem dX8_takeBackRebasing_21 : decode cX8_takeBackRebasing 21 = .ok (.aload_n 2, 1) := by decide +kernel
theorem dX8_takeBackRebasing_22 : decode cX8_takeBackRebasing 22 = .ok (.getfield 239, 3) := by decide +kernel
theorem dX8_takeBackRebasing_25 : decode cX8_takeBackRebasing 25 = .ok (.ifCond .le 13, 3) := by decide +kernel
theorem dX8_takeBackRebasing_28 : decode cX8_takeBackRebasing 28 = .ok (.aload_n 2, 1) := by decide +kernel
theorem dX8_takeBackRebasing_29 : decode cX8_takeBackRebasing 29 = .ok (.dup, 1) := by decide +kernel
theorem dX8_takeBackRebasing_30 : decode cX8_takeBackRebasing 30 = .ok (.getfield 239, 3) := by decide +kernel
theorem dX8_takeBackRebasing_33 : decode cX8_takeBackRebasing 33 = .ok (.iconst 1, 1) := by decide +kernel
theorem dX8_takeBackRebasing_34 : decode cX8_takeBackRebasing 34 = .ok (.isub, 1) := by decide +kernel
theorem dX8_takeBackRebasing_35 : decode cX8_takeBackRebasing 35 = .ok (.putfield 239, 3) := by decide +kernel
theorem dX8_takeBackRebasing_38 : decode cX8_takeBackRebasing 38 = .ok (.return_, 1) := by decide +kernel
theorem dX8_takeBackClose_0 : decode cX8_takeBackClose 0 = .ok (.aload_n 0, 1) := by decide +kernel
theorem dX8_takeBackClose_1 : decode cX8_takeBackClose 1 = .ok (.getfield 19, 3) := by decide +kernel
theorem dX8_takeBackClose_4 : decode cX8_takeBackClose 4 = .ok (.getfield 68, 3) := by decide +kernel
theorem dX8_takeBackClose_7 : decode cX8_takeBackClose 7 = .ok (.ifCond .le 30, 3) := by decide +kernel
theorem dX8_takeBackClose_10 : decode cX8_takeBackClose 10 = .ok (.aload_n 0, 1) := by decide +kernel
theorem dX8_takeBackClose_11 : decode cX8_takeBackClose 11 = .ok (.getfield 19, 3) := by decide +kernel
theorem dX8_takeBackClose_14 : decode cX8_takeBackClose 14 = .ok (.dup, 1) := by decide +kernel
theorem dX8_takeBackClose_15 : decode cX8_takeBackClose 15 = .ok (.getfield 68, 3) := by decide +kernel
theorem dX8_takeBackClose_18 : decode cX8_takeBackClose 18 = .ok (.iconst 1, 1) := by decide +kernel
theorem dX8_takeBackClose_19 : decode cX8_takeBackClose 19 = .ok (.isub, 1) := by decide +kernel
theorem dX8_takeBackClose_20 : decode cX8_takeBackClose 20 = .ok (.putfield 68, 3) := by decide +kernel
theorem dX8_takeBackClose_23 : decode cX8_takeBackClose 23 = .ok (.aload_n 0, 1) := by decide +kernel
theorem dX8_takeBackClose_24 : decode cX8_takeBackClose 24 = .ok (.getfield 26, 3) := by decide +kernel
theorem dX8_takeBackClose_27 : decode cX8_takeBackClose 27 = .ok (.aload_n 0, 1) := by decide +kernel
theorem dX8_takeBackClose_28 : decode cX8_takeBackClose 28 = .ok (.getfield 19, 3) := by decide +kernel
theorem dX8_takeBackClose_31 : decode cX8_takeBackClose 31 = .ok (.getfield 68, 3) := by decide +kernel
theorem dX8_takeBackClose_34 : decode cX8_takeBackClose 34 = .ok (.invokevirtual 294, 3) := by decide +kernel
theorem dX8_takeBackClose_37 : decode cX8_takeBackClose 37 = .ok (.return_, 1) := by decide +kernel
theorem dX8_isMonth_0 : decode cX8_isMonth 0 = .ok (.iload_n 0, 1) := by decide +kernel
theorem dX8_isMonth_1 : decode cX8_isMonth 1 = .ok (.ifCond .lt 13, 3) := by decide +kernel
theorem dX8_isMonth_4 : decode cX8_isMonth 4 = .ok (.iload_n 0, 1) := by decide +kernel
theorem dX8_isMonth_5 : decode cX8_isMonth 5 = .ok (.bipush 36, 2) := by decide +kernel
theorem dX8_isMonth_7 : decode cX8_isMonth 7 = .ok (.if_icmp .ge 7, 3) := by decide +kernel
theorem dX8_isMonth_10 : decode cX8_isMonth 10 = .ok (.iconst 1, 1) := by decide +kernel
theorem dX8_isMonth_11 : decode cX8_isMonth 11 = .ok (.goto 4, 3) := by decide +kernel
theorem dX8_isMonth_14 : decode cX8_isMonth 14 = .ok (.iconst 0, 1) := by decide +kernel
theorem dX8_isMonth_15 : decode cX8_isMonth 15 = .ok (.ireturn, 1) := by decide +kernel
theorem dX8_isValue_0 : decode cX8_isValue 0 = .ok (.iload_n 0, 1) := by decide +kernel
theorem dX8_isValue_1 : decode cX8_isValue 1 = .ok (.iconst 1, 1) := by decide +kernel
theorem dX8_isValue_2 : decode cX8_isValue 2 = .ok (.if_icmp .lt 14, 3) := by decide +kernel
theorem dX8_isValue_5 : decode cX8_isValue 5 = .ok (.iload_n 0, 1) := by decide +kernel
theorem dX8_isValue_6 : decode cX8_isValue 6 = .ok (.sipush 999, 3) := by decide +kernel
theorem dX8_isValue_9 : decode cX8_isValue 9 = .ok (.if_icmp .gt 7, 3) := by decide +kernel
theorem dX8_isValue_12 : decode cX8_isValue 12 = .ok (.iconst 1, 1) := by decide +kernel
theorem dX8_isValue_13 : decode cX8_isValue 13 = .ok (.goto 4, 3) := by decide +kernel
theorem dX8_isValue_16 : decode cX8_isValue 16 = .ok (.iconst 0, 1) := by decide +kernel
theorem dX8_isValue_17 : decode cX8_isValue 17 = .ok (.ireturn, 1) := by decide +kernel
theorem dX9_thrown_0 : decode cX9_thrown 0 = .ok (.aload_n 0, 1) := by decide +kernel
theorem dX9_thrown_1 : decode cX9_thrown 1 = .ok (.getfield 1, 3) := by decide +kernel
theorem dX9_thrown_4 : decode cX9_thrown 4 = .ok (.ireturn, 1) := by decide +kernel
theorem dX9_refuse_0 : decode cX9_refuse 0 = .ok (.aload_n 0, 1) := by decide +kernel
theorem dX9_refuse_1 : decode cX9_refuse 1 = .ok (.iconst 1, 1) := by decide +kernel
theorem dX9_refuse_2 : decode cX9_refuse 2 = .ok (.putfield 1, 3) := by decide +kernel
theorem dX9_refuse_5 : decode cX9_refuse 5 = .ok (.iconst 0, 1) := by decide +kernel
theorem dX9_refuse_6 : decode cX9_refuse 6 = .ok (.ireturn, 1) := by decide +kernel
theorem dX9_isIn_0 : decode cX9_isIn 0 = .ok (.iload_n 0, 1) := by decide +kernel
theorem dX9_isIn_1 : decode cX9_isIn 1 = .ok (.iload_n 1, 1) := by decide +kernel
theorem dX9_isIn_2 : decode cX9_isIn 2 = .ok (.if_icmp .lt 12, 3) := by decide +kernel
theorem dX9_isIn_5 : decode cX9_isIn 5 = .ok (.iload_n 0, 1) := by decide +kernel
theorem dX9_isIn_6 : decode cX9_isIn 6 = .ok (.iload_n 2, 1) := by decide +kernel
theorem dX9_isIn_7 : decode cX9_isIn 7 = .ok (.if_icmp .gt 7, 3) := by decide +kernel
theorem dX9_isIn_10 : decode cX9_isIn 10 = .ok (.iconst 1, 1) := by decide +kernel
theorem dX9_isIn_11 : decode cX9_isIn 11 = .ok (.goto 4, 3) := by decide +kernel
theorem dX9_isIn_14 : decode cX9_isIn 14 = .ok (.iconst 0, 1) := by decide +kernel
theorem dX9_isIn_15 : decode cX9_isIn 15 = .ok (.ireturn, 1) := by decide +kernel
theorem dX9_lays_0 : decode cX9_lays 0 = .ok (.bipush 24, 2) := by decide +kernel
theorem dX9_lays_2 : decode cX9_lays 2 = .ok (.istore_n 2, 1) := by decide +kernel
theorem dX9_lays_3 : decode cX9_lays 3 = .ok (.iload_n 2, 1) := by decide +kernel
theorem dX9_lays_4 : decode cX9_lays 4 = .ok (.ifCond .lt 35, 3) := by decide +kernel
theorem dX9_lays_7 : decode cX9_lays 7 = .ok (.aload_n 0, 1) := by decide +kernel
theorem dX9_lays_8 : decode cX9_lays 8 = .ok (.getfield 7, 3) := by decide +kernel
theorem dX9_lays_11 : decode cX9_lays 11 = .ok (.aload_n 0, 1) := by decide +kernel
theorem dX9_lays_12 : decode cX9_lays 12 = .ok (.getfield 11, 3) := by decide +kernel
theorem dX9_lays_15 : decode cX9_lays 15 = .ok (.iload_n 1, 1) := by decide +kernel
theorem dX9_lays_16 : decode cX9_lays 16 = .ok (.iload_n 2, 1) := by decide +kernel
theorem dX9_lays_17 : decode cX9_lays 17 = .ok (.iushr, 1) := by decide +kernel
theorem dX9_lays_18 : decode cX9_lays 18 = .ok (.sipush 255, 3) := by decide +kernel
theorem dX9_lays_21 : decode cX9_lays 21 = .ok (.iand, 1) := by decide +kernel
theorem dX9_lays_22 : decode cX9_lays 22 = .ok (.iastore, 1) := by decide +kernel
theorem dX9_lays_23 : decode cX9_lays 23 = .ok (.aload_n 0, 1) := by decide +kernel
theorem dX9_lays_24 : decode cX9_lays 24 = .ok (.dup, 1) := by decide +kernel
theorem dX9_lays_25 : decode cX9_lays 25 = .ok (.getfield 11, 3) := by decide +kernel
theorem dX9_lays_28 : decode cX9_lays 28 = .ok (.iconst 1, 1) := by decide +kernel
theorem dX9_lays_29 : decode cX9_lays 29 = .ok (.iadd, 1) := by decide +kernel
theorem dX9_lays_30 : decode cX9_lays 30 = .ok (.putfield 11, 3) := by decide +kernel
theorem dX9_lays_33 : decode cX9_lays 33 = .ok (.iinc 2 (-8), 3) := by decide +kernel
theorem dX9_lays_36 : decode cX9_lays 36 = .ok (.goto (-33), 3) := by decide +kernel
theorem dX9_lays_39 : decode cX9_lays 39 = .ok (.return_, 1) := by decide +kernel
theorem dX9_feed_0 : decode cX9_feed 0 = .ok (.aload_n 0, 1) := by decide +kernel
theorem dX9_feed_1 : decode cX9_feed 1 = .ok (.iconst 0, 1) := by decide +kernel
theorem dX9_feed_2 : decode cX9_feed 2 = .ok (.putfield 1, 3) := by decide +kernel
theorem dX9_feed_5 : decode cX9_feed 5 = .ok (.aload_n 0, 1) := by decide +kernel
theorem dX9_feed_6 : decode cX9_feed 6 = .ok (.getfield 11, 3) := by decide +kernel
theorem dX9_feed_9 : decode cX9_feed 9 = .ok (.bipush 20, 2) := by decide +kernel
theorem dX9_feed_11 : decode cX9_feed 11 = .ok (.iadd, 1) := by decide +kernel
theorem dX9_feed_12 : decode cX9_feed 12 = .ok (.sipush 740, 3) := by decide +kernel
theorem dX9_feed_15 : decode cX9_feed 15 = .ok (.if_icmp .le 5, 3) := by decide +kernel
theorem dX9_feed_18 : decode cX9_feed 18 = .ok (.iconst (-1), 1) := by decide +kernel
theorem dX9_feed_19 : decode cX9_feed 19 = .ok (.ireturn, 1) := by decide +kernel
theorem dX9_feed_20 : decode cX9_feed 20 = .ok (.aload_n 0, 1) := by decide +kernel
theorem dX9_feed_21 : decode cX9_feed 21 = .ok (.iload_n 1, 1) := by decide +kernel
theorem dX9_feed_22 : decode cX9_feed 22 = .ok (.invokevirtual 14, 3) := by decide +kernel
theorem dX9_feed_25 : decode cX9_feed 25 = .ok (.aload_n 0, 1) := by decide +kernel
theorem dX9_feed_26 : decode cX9_feed 26 = .ok (.iload_n 2, 1) := by decide +kernel
theorem dX9_feed_27 : decode cX9_feed 27 = .ok (.invokevirtual 14, 3) := by decide +kernel
theorem dX9_feed_30 : decode cX9_feed 30 = .ok (.aload_n 0, 1) := by decide +kernel
theorem dX9_feed_31 : decode cX9_feed 31 = .ok (.iload_n 3, 1) := by decide +kernel
theorem dX9_feed_32 : decode cX9_feed 32 = .ok (.invokevirtual 14, 3) := by decide +kernel
theorem dX9_feed_35 : decode cX9_feed 35 = .ok (.aload_n 0, 1) := by decide +kernel
theorem dX9_feed_36 : decode cX9_feed 36 = .ok (.iload 4, 2) := by decide +kernel
theorem dX9_feed_38 : decode cX9_feed 38 = .ok (.invokevirtual 14, 3) := by decide +kernel
theorem dX9_feed_41 : decode cX9_feed 41 = .ok (.aload_n 0, 1) := by decide +kernel
theorem dX9_feed_42 : decode cX9_feed 42 = .ok (.iload 5, 2) := by decide +kernel
theorem dX9_feed_44 : decode cX9_feed 44 = .ok (.invokevirtual 14, 3) := by decide +kernel
theorem dX9_feed_47 : decode cX9_feed 47 = .ok (.aload_n 0, 1) := by decide +kernel
theorem dX9_feed_48 : decode cX9_feed 48 = .ok (.getfield 11, 3) := by decide +kernel
theorem dX9_feed_51 : decode cX9_feed 51 = .ok (.ireturn, 1) := by decide +kernel
theorem dX9_end_0 : decode cX9_end 0 = .ok (.aload_n 0, 1) := by decide +kernel
theorem dX9_end_1 : decode cX9_end 1 = .ok (.iconst 0, 1) := by decide +kernel
theorem dX9_end_2 : decode cX9_end 2 = .ok (.putfield 1, 3) := by decide +kernel
theorem dX9_end_5 : decode cX9_end 5 = .ok (.iload_n 1, 1) := by decide +kernel
theorem dX9_end_6 : decode cX9_end 6 = .ok (.ifCond .lt 11, 3) := by decide +kernel
theorem dX9_end_9 : decode cX9_end 9 = .ok (.iload_n 1, 1) := by decide +kernel
theorem dX9_end_10 : decode cX9_end 10 = .ok (.aload_n 0, 1) := by decide +kernel
theorem dX9_end_11 : decode cX9_end 11 = .ok (.getfield 11, 3) := by decide +kernel
theorem dX9_end_14 : decode cX9_end 14 = .ok (.if_icmp .le 5, 3) := by decide +kernel
theorem dX9_end_17 : decode cX9_end 17 = .ok (.iconst 0, 1) := by decide +kernel
theorem dX9_end_18 : decode cX9_end 18 = .ok (.ireturn, 1) := by decide +kernel
theorem dX9_end_19 : decode cX9_end 19 = .ok (.aload_n 0, 1) := by decide +kernel
theorem dX9_end_20 : decode cX9_end 20 = .ok (.iload_n 1, 1) := by decide +kernel
theorem dX9_end_21 : decode cX9_end 21 = .ok (.putfield 11, 3) := by decide +kernel
theorem dX9_end_24 : decode cX9_end 24 = .ok (.iconst 1, 1) := by decide +kernel
theorem dX9_end_25 : decode cX9_end 25 = .ok (.ireturn, 1) := by decide +kernel
theorem dX9_tapeAt_0 : decode cX9_tapeAt 0 = .ok (.iload_n 1, 1) := by decide +kernel
theorem dX9_tapeAt_1 : decode cX9_tapeAt 1 = .ok (.aload_n 0, 1) := by decide +kernel
theorem dX9_tapeAt_2 : decode cX9_tapeAt 2 = .ok (.getfield 18, 3) := by decide +kernel
theorem dX9_tapeAt_5 : decode cX9_tapeAt 5 = .ok (.if_icmp .ge 12, 3) := by decide +kernel
theorem dX9_tapeAt_8 : decode cX9_tapeAt 8 = .ok (.aload_n 0, 1) := by decide +kernel
theorem dX9_tapeAt_9 : decode cX9_tapeAt 9 = .ok (.getfield 7, 3) := by decide +kernel
theorem dX9_tapeAt_12 : decode cX9_tapeAt 12 = .ok (.iload_n 1, 1) := by decide +kernel
theorem dX9_tapeAt_13 : decode cX9_tapeAt 13 = .ok (.iaload, 1) := by decide +kernel
theorem dX9_tapeAt_14 : decode cX9_tapeAt 14 = .ok (.goto 4, 3) := by decide +kernel
theorem dX9_tapeAt_17 : decode cX9_tapeAt 17 = .ok (.iconst 0, 1) := by decide +kernel
theorem dX9_tapeAt_18 : decode cX9_tapeAt 18 = .ok (.ireturn, 1) := by decide +kernel
theorem dX9_isDigit_0 : decode cX9_isDigit 0 = .ok (.iload_n 0, 1) := by decide +kernel
theorem dX9_isDigit_1 : decode cX9_isDigit 1 = .ok (.bipush 48, 2) := by decide +kernel
theorem dX9_isDigit_3 : decode cX9_isDigit 3 = .ok (.if_icmp .lt 13, 3) := by decide +kernel
theorem dX9_isDigit_6 : decode cX9_isDigit 6 = .ok (.iload_n 0, 1) := by decide +kernel
theorem dX9_isDigit_7 : decode cX9_isDigit 7 = .ok (.bipush 57, 2) := by decide +kernel
theorem dX9_isDigit_9 : decode cX9_isDigit 9 = .ok (.if_icmp .gt 7, 3) := by decide +kernel
theorem dX9_isDigit_12 : decode cX9_isDigit 12 = .ok (.iconst 1, 1) := by decide +kernel
theorem dX9_isDigit_13 : decode cX9_isDigit 13 = .ok (.goto 4, 3) := by decide +kernel
theorem dX9_isDigit_16 : decode cX9_isDigit 16 = .ok (.iconst 0, 1) := by decide +kernel
theorem dX9_isDigit_17 : decode cX9_isDigit 17 = .ok (.ireturn, 1) := by decide +kernel
theorem dX9_isLetter_0 : decode cX9_isLetter 0 = .ok (.iload_n 0, 1) := by decide +kernel
theorem dX9_isLetter_1 : decode cX9_isLetter 1 = .ok (.bipush 97, 2) := by decide +kernel
theorem dX9_isLetter_3 : decode cX9_isLetter 3 = .ok (.if_icmp .lt 13, 3) := by decide +kernel
theorem dX9_isLetter_6 : decode cX9_isLetter 6 = .ok (.iload_n 0, 1) := by decide +kernel
theorem dX9_isLetter_7 : decode cX9_isLetter 7 = .ok (.bipush 122, 2) := by decide +kernel
theorem dX9_isLetter_9 : decode cX9_isLetter 9 = .ok (.if_icmp .gt 7, 3) := by decide +kernel
theorem dX9_isLetter_12 : decode cX9_isLetter 12 = .ok (.iconst 1, 1) := by decide +kernel
theorem dX9_isLetter_13 : decode cX9_isLetter 13 = .ok (.goto 4, 3) := by decide +kernel
theorem dX9_isLetter_16 : decode cX9_isLetter 16 = .ok (.iconst 0, 1) := by decide +kernel
theorem dX9_isLetter_17 : decode cX9_isLetter 17 = .ok (.ireturn, 1) := by decide +kernel
theorem dX9_go_0 : decode cX9_go 0 = .ok (.aload_n 0, 1) := by decide +kernel
theorem dX9_go_1 : decode cX9_go 1 = .ok (.getfield 21, 3) := by decide +kernel
theorem dX9_go_4 : decode cX9_go 4 = .ok (.aload_n 0, 1) := by decide +kernel
theorem dX9_go_5 : decode cX9_go 5 = .ok (.getfield 18, 3) := by decide +kernel
theorem dX9_go_8 : decode cX9_go 8 = .ok (.if_icmp .ge 44, 3) := by decide +kernel
theorem dX9_go_11 : decode cX9_go 11 = .ok (.aload_n 0, 1) := by decide +kernel
theorem dX9_go_12 : decode cX9_go 12 = .ok (.getfield 7, 3) := by decide +kernel
theorem dX9_go_15 : decode cX9_go 15 = .ok (.aload_n 0, 1) := by decide +kernel
theorem dX9_go_16 : decode cX9_go 16 = .ok (.getfield 21, 3) := by decide +kernel
theorem dX9_go_19 : decode cX9_go 19 = .ok (.iaload, 1) := by decide +kernel
theorem dX9_go_20 : decode cX9_go 20 = .ok (.bipush 32, 2) := by decide +kernel
theorem dX9_go_22 : decode cX9_go 22 = .ok (.if_icmp .eq 17, 3) := by decide +kernel
theorem dX9_go_25 : decode cX9_go 25 = .ok (.aload_n 0, 1) := by decide +kernel
theorem dX9_go_26 : decode cX9_go 26 = .ok (.getfield 7, 3) := by decide +kernel
theorem dX9_go_29 : decode cX9_go 29 = .ok (.aload_n 0, 1) := by decide +kernel
theorem dX9_go_30 : decode cX9_go 30 = .ok (.getfield 21, 3) := by decide +kernel
theorem dX9_go_33 : decode cX9_go 33 = .ok (.iaload, 1) := by decide +kernel
theorem dX9_go_34 : decode cX9_go 34 = .ok (.bipush 10, 2) := by decide +kernel
theorem dX9_go_36 : decode cX9_go 36 = .ok (.if_icmp .ne 16, 3) := by decide +kernel
theorem dX9_go_39 : decode cX9_go 39 = .ok (.aload_n 0, 1) := by decide +kernel
theorem dX9_go_40 : decode cX9_go 40 = .ok (.dup, 1) := by decide +kernel
theorem dX9_go_41 : decode cX9_go 41 = .ok (.getfield 21, 3) := by decide +kernel
theorem dX9_go_44 : decode cX9_go 44 = .ok (.iconst 1, 1) := by decide +kernel
theorem dX9_go_45 : decode cX9_go 45 = .ok (.iadd, 1) := by decide +kernel
theorem dX9_go_46 : decode cX9_go 46 = .ok (.putfield 21, 3) := by decide +kernel
theorem dX9_go_49 : decode cX9_go 49 = .ok (.goto (-49), 3) := by decide +kernel
theorem dX9_go_52 : decode cX9_go 52 = .ok (.aload_n 0, 1) := by decide +kernel
theorem dX9_go_53 : decode cX9_go 53 = .ok (.aload_n 0, 1) := by decide +kernel
theorem dX9_go_54 : decode cX9_go 54 = .ok (.getfield 21, 3) := by decide +kernel
theorem dX9_go_57 : decode cX9_go 57 = .ok (.putfield 24, 3) := by decide +kernel
theorem dX9_go_60 : decode cX9_go 60 = .ok (.aload_n 0, 1) := by decide +kernel
theorem dX9_go_61 : decode cX9_go 61 = .ok (.getfield 18, 3) := by decide +kernel
theorem dX9_go_64 : decode cX9_go 64 = .ok (.sipush 700, 3) := by decide +kernel
theorem dX9_go_67 : decode cX9_go 67 = .ok (.if_icmp .le 26, 3) := by decide +kernel
theorem dX9_go_70 : decode cX9_go 70 = .ok (.aload_n 0, 1) := by decide +kernel
theorem dX9_go_71 : decode cX9_go 71 = .ok (.getfield 24, 3) := by decide +kernel
theorem dX9_go_74 : decode cX9_go 74 = .ok (.sipush 700, 3) := by decide +kernel
theorem dX9_go_77 : decode cX9_go 77 = .ok (.if_icmp .lt 16, 3) := by decide +kernel
theorem dX9_go_80 : decode cX9_go 80 = .ok (.aload_n 0, 1) := by decide +kernel
theorem dX9_go_81 : decode cX9_go 81 = .ok (.sipush 700, 3) := by decide +kernel
theorem dX9_go_84 : decode cX9_go 84 = .ok (.putfield 24, 3) := by decide +kernel
theorem dX9_go_87 : decode cX9_go 87 = .ok (.aload_n 0, 1) := by decide +kernel
theorem dX9_go_88 : decode cX9_go 88 = .ok (.iconst 1, 1) := by decide +kernel
theorem dX9_go_89 : decode cX9_go 89 = .ok (.putfield 27, 3) := by decide +kernel
theorem dX9_go_92 : decode cX9_go 92 = .ok (.return_, 1) := by decide +kernel
theorem dX9_go_93 : decode cX9_go 93 = .ok (.aload_n 0, 1) := by decide +kernel
theorem dX9_go_94 : decode cX9_go 94 = .ok (.getfield 21, 3) := by decide +kernel
theorem dX9_go_97 : decode cX9_go 97 = .ok (.aload_n 0, 1) := by decide +kernel
theorem dX9_go_98 : decode cX9_go 98 = .ok (.getfield 18, 3) := by decide +kernel
theorem dX9_go_101 : decode cX9_go 101 = .ok (.if_icmp .lt 9, 3) := by decide +kernel
theorem dX9_go_104 : decode cX9_go 104 = .ok (.aload_n 0, 1) := by decide +kernel
theorem dX9_go_105 : decode cX9_go 105 = .ok (.iconst 0, 1) := by decide +kernel
theorem dX9_go_106 : decode cX9_go 106 = .ok (.putfield 27, 3) := by decide +kernel
theorem dX9_go_109 : decode cX9_go 109 = .ok (.return_, 1) := by decide +kernel
theorem dX9_go_110 : decode cX9_go 110 = .ok (.aload_n 0, 1) := by decide +kernel
theorem dX9_go_111 : decode cX9_go 111 = .ok (.getfield 7, 3) := by decide +kernel
theorem dX9_go_114 : decode cX9_go 114 = .ok (.aload_n 0, 1) := by decide +kernel
theorem dX9_go_115 : decode cX9_go 115 = .ok (.getfield 21, 3) := by decide +kernel
theorem dX9_go_118 : decode cX9_go 118 = .ok (.iaload, 1) := by decide +kernel
theorem dX9_go_119 : decode cX9_go 119 = .ok (.istore_n 1, 1) := by decide +kernel
theorem dX9_go_120 : decode cX9_go 120 = .ok (.iload_n 1, 1) := by decide +kernel
theorem dX9_go_121 : decode cX9_go 121 = .ok (.invokestatic 30, 3) := by decide +kernel
theorem dX9_go_124 : decode cX9_go 124 = .ok (.ifCond .ne 53, 3) := by decide +kernel
theorem dX9_go_127 : decode cX9_go 127 = .ok (.iload_n 1, 1) := by decide +kernel
theorem dX9_go_128 : decode cX9_go 128 = .ok (.invokestatic 34, 3) := by decide +kernel
theorem dX9_go_131 : decode cX9_go 131 = .ok (.ifCond .ne 46, 3) := by decide +kernel
theorem dX9_go_134 : decode cX9_go 134 = .ok (.aload_n 0, 1) := by decide +kernel
theorem dX9_go_135 : decode cX9_go 135 = .ok (.iload_n 1, 1) := by decide +kernel
theorem dX9_go_136 : decode cX9_go 136 = .ok (.bipush 59, 2) := by decide +kernel
end
section
theorem dX9_go_138 : decode cX9_go 138 = .ok (.if_icmp .eq 15, 3) := by decide +kernel
theorem dX9_go_141 : decode cX9_go 141 = .ok (.iload_n 1, 1) := by decide +kernel
theorem dX9_go_142 : decode cX9_go 142 = .ok (.bipush 61, 2) := by decide +kernel
theorem dX9_go_144 : decode cX9_go 144 = .ok (.if_icmp .eq 9, 3) := by decide +kernel
theorem dX9_go_147 : decode cX9_go 147 = .ok (.iload_n 1, 1) := by decide +kernel
theorem dX9_go_148 : decode cX9_go 148 = .ok (.bipush 43, 2) := by decide +kernel
theorem dX9_go_150 : decode cX9_go 150 = .ok (.if_icmp .ne 7, 3) := by decide +kernel
theorem dX9_go_153 : decode cX9_go 153 = .ok (.iconst 4, 1) := by decide +kernel
theorem dX9_go_154 : decode cX9_go 154 = .ok (.goto 4, 3) := by decide +kernel
theorem dX9_go_157 : decode cX9_go 157 = .ok (.iconst 1, 1) := by decide +kernel
theorem dX9_go_158 : decode cX9_go 158 = .ok (.putfield 27, 3) := by decide +kernel
theorem dX9_go_161 : decode cX9_go 161 = .ok (.aload_n 0, 1) := by decide +kernel
theorem dX9_go_162 : decode cX9_go 162 = .ok (.iload_n 1, 1) := by decide +kernel
theorem dX9_go_163 : decode cX9_go 163 = .ok (.putfield 37, 3) := by decide +kernel
theorem dX9_go_166 : decode cX9_go 166 = .ok (.aload_n 0, 1) := by decide +kernel
theorem dX9_go_167 : decode cX9_go 167 = .ok (.dup, 1) := by decide +kernel
theorem dX9_go_168 : decode cX9_go 168 = .ok (.getfield 21, 3) := by decide +kernel
theorem dX9_go_171 : decode cX9_go 171 = .ok (.iconst 1, 1) := by decide +kernel
theorem dX9_go_172 : decode cX9_go 172 = .ok (.iadd, 1) := by decide +kernel
theorem dX9_go_173 : decode cX9_go 173 = .ok (.putfield 21, 3) := by decide +kernel
theorem dX9_go_176 : decode cX9_go 176 = .ok (.return_, 1) := by decide +kernel
theorem dX9_go_177 : decode cX9_go 177 = .ok (.iload_n 1, 1) := by decide +kernel
theorem dX9_go_178 : decode cX9_go 178 = .ok (.invokestatic 30, 3) := by decide +kernel
theorem dX9_go_181 : decode cX9_go 181 = .ok (.istore_n 2, 1) := by decide +kernel
theorem dX9_go_182 : decode cX9_go 182 = .ok (.iconst 1, 1) := by decide +kernel
theorem dX9_go_183 : decode cX9_go 183 = .ok (.istore_n 3, 1) := by decide +kernel
theorem dX9_go_184 : decode cX9_go 184 = .ok (.aload_n 0, 1) := by decide +kernel
theorem dX9_go_185 : decode cX9_go 185 = .ok (.lconst 0, 1) := by decide +kernel
theorem dX9_go_186 : decode cX9_go 186 = .ok (.putfield 40, 3) := by decide +kernel
theorem dX9_go_189 : decode cX9_go 189 = .ok (.aload_n 0, 1) := by decide +kernel
theorem dX9_go_190 : decode cX9_go 190 = .ok (.iconst 0, 1) := by decide +kernel
theorem dX9_go_191 : decode cX9_go 191 = .ok (.putfield 44, 3) := by decide +kernel
theorem dX9_go_194 : decode cX9_go 194 = .ok (.aload_n 0, 1) := by decide +kernel
theorem dX9_go_195 : decode cX9_go 195 = .ok (.aload_n 0, 1) := by decide +kernel
theorem dX9_go_196 : decode cX9_go 196 = .ok (.getfield 21, 3) := by decide +kernel
theorem dX9_go_199 : decode cX9_go 199 = .ok (.invokevirtual 47, 3) := by decide +kernel
theorem dX9_go_202 : decode cX9_go 202 = .ok (.invokestatic 30, 3) := by decide +kernel
theorem dX9_go_205 : decode cX9_go 205 = .ok (.ifCond .ne 17, 3) := by decide +kernel
theorem dX9_go_208 : decode cX9_go 208 = .ok (.aload_n 0, 1) := by decide +kernel
theorem dX9_go_209 : decode cX9_go 209 = .ok (.aload_n 0, 1) := by decide +kernel
theorem dX9_go_210 : decode cX9_go 210 = .ok (.getfield 21, 3) := by decide +kernel
theorem dX9_go_213 : decode cX9_go 213 = .ok (.invokevirtual 47, 3) := by decide +kernel
theorem dX9_go_216 : decode cX9_go 216 = .ok (.invokestatic 34, 3) := by decide +kernel
theorem dX9_go_219 : decode cX9_go 219 = .ok (.ifCond .eq 110, 3) := by decide +kernel
theorem dX9_go_222 : decode cX9_go 222 = .ok (.aload_n 0, 1) := by decide +kernel
theorem dX9_go_223 : decode cX9_go 223 = .ok (.getfield 7, 3) := by decide +kernel
theorem dX9_go_226 : decode cX9_go 226 = .ok (.aload_n 0, 1) := by decide +kernel
theorem dX9_go_227 : decode cX9_go 227 = .ok (.getfield 21, 3) := by decide +kernel
theorem dX9_go_230 : decode cX9_go 230 = .ok (.iaload, 1) := by decide +kernel
theorem dX9_go_231 : decode cX9_go 231 = .ok (.istore 4, 2) := by decide +kernel
theorem dX9_go_233 : decode cX9_go 233 = .ok (.iload_n 3, 1) := by decide +kernel
theorem dX9_go_234 : decode cX9_go 234 = .ok (.ifCond .eq 16, 3) := by decide +kernel
theorem dX9_go_237 : decode cX9_go 237 = .ok (.iload 4, 2) := by decide +kernel
theorem dX9_go_239 : decode cX9_go 239 = .ok (.invokestatic 30, 3) := by decide +kernel
theorem dX9_go_242 : decode cX9_go 242 = .ok (.iload_n 2, 1) := by decide +kernel
theorem dX9_go_243 : decode cX9_go 243 = .ok (.if_icmp .ne 7, 3) := by decide +kernel
theorem dX9_go_246 : decode cX9_go 246 = .ok (.iconst 1, 1) := by decide +kernel
theorem dX9_go_247 : decode cX9_go 247 = .ok (.goto 4, 3) := by decide +kernel
theorem dX9_go_250 : decode cX9_go 250 = .ok (.iconst 0, 1) := by decide +kernel
theorem dX9_go_251 : decode cX9_go 251 = .ok (.istore_n 3, 1) := by decide +kernel
theorem dX9_go_252 : decode cX9_go 252 = .ok (.aload_n 0, 1) := by decide +kernel
theorem dX9_go_253 : decode cX9_go 253 = .ok (.getfield 21, 3) := by decide +kernel
theorem dX9_go_256 : decode cX9_go 256 = .ok (.aload_n 0, 1) := by decide +kernel
theorem dX9_go_257 : decode cX9_go 257 = .ok (.getfield 24, 3) := by decide +kernel
theorem dX9_go_260 : decode cX9_go 260 = .ok (.isub, 1) := by decide +kernel
theorem dX9_go_261 : decode cX9_go 261 = .ok (.bipush 8, 2) := by decide +kernel
theorem dX9_go_263 : decode cX9_go 263 = .ok (.if_icmp .ge 23, 3) := by decide +kernel
theorem dX9_go_266 : decode cX9_go 266 = .ok (.aload_n 0, 1) := by decide +kernel
theorem dX9_go_267 : decode cX9_go 267 = .ok (.ldc2_w 51, 3) := by decide +kernel
theorem dX9_go_270 : decode cX9_go 270 = .ok (.aload_n 0, 1) := by decide +kernel
theorem dX9_go_271 : decode cX9_go 271 = .ok (.getfield 40, 3) := by decide +kernel
theorem dX9_go_274 : decode cX9_go 274 = .ok (.lmul, 1) := by decide +kernel
theorem dX9_go_275 : decode cX9_go 275 = .ok (.iload 4, 2) := by decide +kernel
theorem dX9_go_277 : decode cX9_go 277 = .ok (.i2l, 1) := by decide +kernel
theorem dX9_go_278 : decode cX9_go 278 = .ok (.ladd, 1) := by decide +kernel
theorem dX9_go_279 : decode cX9_go 279 = .ok (.ldc2_w 53, 3) := by decide +kernel
theorem dX9_go_282 : decode cX9_go 282 = .ok (.lsub, 1) := by decide +kernel
theorem dX9_go_283 : decode cX9_go 283 = .ok (.putfield 40, 3) := by decide +kernel
theorem dX9_go_286 : decode cX9_go 286 = .ok (.aload_n 0, 1) := by decide +kernel
theorem dX9_go_287 : decode cX9_go 287 = .ok (.getfield 21, 3) := by decide +kernel
theorem dX9_go_290 : decode cX9_go 290 = .ok (.aload_n 0, 1) := by decide +kernel
theorem dX9_go_291 : decode cX9_go 291 = .ok (.getfield 24, 3) := by decide +kernel
theorem dX9_go_294 : decode cX9_go 294 = .ok (.isub, 1) := by decide +kernel
theorem dX9_go_295 : decode cX9_go 295 = .ok (.iconst 4, 1) := by decide +kernel
theorem dX9_go_296 : decode cX9_go 296 = .ok (.if_icmp .ge 20, 3) := by decide +kernel
theorem dX9_go_299 : decode cX9_go 299 = .ok (.aload_n 0, 1) := by decide +kernel
theorem dX9_go_300 : decode cX9_go 300 = .ok (.bipush 10, 2) := by decide +kernel
theorem dX9_go_302 : decode cX9_go 302 = .ok (.aload_n 0, 1) := by decide +kernel
theorem dX9_go_303 : decode cX9_go 303 = .ok (.getfield 44, 3) := by decide +kernel
theorem dX9_go_306 : decode cX9_go 306 = .ok (.imul, 1) := by decide +kernel
theorem dX9_go_307 : decode cX9_go 307 = .ok (.iload 4, 2) := by decide +kernel
theorem dX9_go_309 : decode cX9_go 309 = .ok (.iadd, 1) := by decide +kernel
theorem dX9_go_310 : decode cX9_go 310 = .ok (.bipush 48, 2) := by decide +kernel
theorem dX9_go_312 : decode cX9_go 312 = .ok (.isub, 1) := by decide +kernel
theorem dX9_go_313 : decode cX9_go 313 = .ok (.putfield 44, 3) := by decide +kernel
theorem dX9_go_316 : decode cX9_go 316 = .ok (.aload_n 0, 1) := by decide +kernel
theorem dX9_go_317 : decode cX9_go 317 = .ok (.dup, 1) := by decide +kernel
theorem dX9_go_318 : decode cX9_go 318 = .ok (.getfield 21, 3) := by decide +kernel
theorem dX9_go_321 : decode cX9_go 321 = .ok (.iconst 1, 1) := by decide +kernel
theorem dX9_go_322 : decode cX9_go 322 = .ok (.iadd, 1) := by decide +kernel
theorem dX9_go_323 : decode cX9_go 323 = .ok (.putfield 21, 3) := by decide +kernel
theorem dX9_go_326 : decode cX9_go 326 = .ok (.goto (-132), 3) := by decide +kernel
theorem dX9_go_329 : decode cX9_go 329 = .ok (.aload_n 0, 1) := by decide +kernel
theorem dX9_go_330 : decode cX9_go 330 = .ok (.iload_n 3, 1) := by decide +kernel
theorem dX9_go_331 : decode cX9_go 331 = .ok (.ifCond .eq 25, 3) := by decide +kernel
theorem dX9_go_334 : decode cX9_go 334 = .ok (.aload_n 0, 1) := by decide +kernel
theorem dX9_go_335 : decode cX9_go 335 = .ok (.getfield 21, 3) := by decide +kernel
theorem dX9_go_338 : decode cX9_go 338 = .ok (.aload_n 0, 1) := by decide +kernel
theorem dX9_go_339 : decode cX9_go 339 = .ok (.getfield 24, 3) := by decide +kernel
theorem dX9_go_342 : decode cX9_go 342 = .ok (.isub, 1) := by decide +kernel
theorem dX9_go_343 : decode cX9_go 343 = .ok (.iload_n 2, 1) := by decide +kernel
theorem dX9_go_344 : decode cX9_go 344 = .ok (.ifCond .eq 8, 3) := by decide +kernel
theorem dX9_go_347 : decode cX9_go 347 = .ok (.bipush 8, 2) := by decide +kernel
theorem dX9_go_349 : decode cX9_go 349 = .ok (.goto 4, 3) := by decide +kernel
theorem dX9_go_352 : decode cX9_go 352 = .ok (.iconst 4, 1) := by decide +kernel
theorem dX9_go_353 : decode cX9_go 353 = .ok (.if_icmp .le 7, 3) := by decide +kernel
theorem dX9_go_356 : decode cX9_go 356 = .ok (.iconst 1, 1) := by decide +kernel
theorem dX9_go_357 : decode cX9_go 357 = .ok (.goto 12, 3) := by decide +kernel
theorem dX9_go_360 : decode cX9_go 360 = .ok (.iload_n 2, 1) := by decide +kernel
theorem dX9_go_361 : decode cX9_go 361 = .ok (.ifCond .eq 7, 3) := by decide +kernel
theorem dX9_go_364 : decode cX9_go 364 = .ok (.iconst 2, 1) := by decide +kernel
theorem dX9_go_365 : decode cX9_go 365 = .ok (.goto 4, 3) := by decide +kernel
theorem dX9_go_368 : decode cX9_go 368 = .ok (.iconst 3, 1) := by decide +kernel
theorem dX9_go_369 : decode cX9_go 369 = .ok (.putfield 27, 3) := by decide +kernel
theorem dX9_go_372 : decode cX9_go 372 = .ok (.return_, 1) := by decide +kernel
theorem dX9_four_0 : decode cX9_four 0 = .ok (.ldc2_w 51, 3) := by decide +kernel
theorem dX9_four_3 : decode cX9_four 3 = .ok (.ldc2_w 51, 3) := by decide +kernel
theorem dX9_four_6 : decode cX9_four 6 = .ok (.ldc2_w 51, 3) := by decide +kernel
theorem dX9_four_9 : decode cX9_four 9 = .ok (.iload_n 0, 1) := by decide +kernel
theorem dX9_four_10 : decode cX9_four 10 = .ok (.i2l, 1) := by decide +kernel
theorem dX9_four_11 : decode cX9_four 11 = .ok (.ldc2_w 53, 3) := by decide +kernel
theorem dX9_four_14 : decode cX9_four 14 = .ok (.lsub, 1) := by decide +kernel
theorem dX9_four_15 : decode cX9_four 15 = .ok (.lmul, 1) := by decide +kernel
theorem dX9_four_16 : decode cX9_four 16 = .ok (.iload_n 1, 1) := by decide +kernel
theorem dX9_four_17 : decode cX9_four 17 = .ok (.i2l, 1) := by decide +kernel
theorem dX9_four_18 : decode cX9_four 18 = .ok (.ladd, 1) := by decide +kernel
theorem dX9_four_19 : decode cX9_four 19 = .ok (.ldc2_w 53, 3) := by decide +kernel
theorem dX9_four_22 : decode cX9_four 22 = .ok (.lsub, 1) := by decide +kernel
theorem dX9_four_23 : decode cX9_four 23 = .ok (.lmul, 1) := by decide +kernel
theorem dX9_four_24 : decode cX9_four 24 = .ok (.iload_n 2, 1) := by decide +kernel
theorem dX9_four_25 : decode cX9_four 25 = .ok (.i2l, 1) := by decide +kernel
theorem dX9_four_26 : decode cX9_four 26 = .ok (.ladd, 1) := by decide +kernel
theorem dX9_four_27 : decode cX9_four 27 = .ok (.ldc2_w 53, 3) := by decide +kernel
theorem dX9_four_30 : decode cX9_four 30 = .ok (.lsub, 1) := by decide +kernel
theorem dX9_four_31 : decode cX9_four 31 = .ok (.lmul, 1) := by decide +kernel
theorem dX9_four_32 : decode cX9_four 32 = .ok (.iload_n 3, 1) := by decide +kernel
theorem dX9_four_33 : decode cX9_four 33 = .ok (.i2l, 1) := by decide +kernel
theorem dX9_four_34 : decode cX9_four 34 = .ok (.ladd, 1) := by decide +kernel
theorem dX9_four_35 : decode cX9_four 35 = .ok (.ldc2_w 53, 3) := by decide +kernel
theorem dX9_four_38 : decode cX9_four 38 = .ok (.lsub, 1) := by decide +kernel
theorem dX9_four_39 : decode cX9_four 39 = .ok (.lreturn, 1) := by decide +kernel
theorem dX9_wordOf_0 : decode cX9_wordOf 0 = .ok (.iload_n 0, 1) := by decide +kernel
theorem dX9_wordOf_1 : decode cX9_wordOf 1 = .ok (.tableswitch 147 0 5 #[39, 59, 79, 107, 119, 123], 39) := by decide +kernel
theorem dX9_wordOf_40 : decode cX9_wordOf 40 = .ok (.ldc2_w 51, 3) := by decide +kernel
theorem dX9_wordOf_43 : decode cX9_wordOf 43 = .ok (.bipush 109, 2) := by decide +kernel
theorem dX9_wordOf_45 : decode cX9_wordOf 45 = .ok (.bipush 111, 2) := by decide +kernel
theorem dX9_wordOf_47 : decode cX9_wordOf 47 = .ok (.bipush 110, 2) := by decide +kernel
theorem dX9_wordOf_49 : decode cX9_wordOf 49 = .ok (.bipush 116, 2) := by decide +kernel
theorem dX9_wordOf_51 : decode cX9_wordOf 51 = .ok (.invokestatic 55, 3) := by decide +kernel
theorem dX9_wordOf_54 : decode cX9_wordOf 54 = .ok (.lmul, 1) := by decide +kernel
theorem dX9_wordOf_55 : decode cX9_wordOf 55 = .ok (.ldc2_w 59, 3) := by decide +kernel
theorem dX9_wordOf_58 : decode cX9_wordOf 58 = .ok (.ladd, 1) := by decide +kernel
theorem dX9_wordOf_59 : decode cX9_wordOf 59 = .ok (.lreturn, 1) := by decide +kernel
theorem dX9_wordOf_60 : decode cX9_wordOf 60 = .ok (.ldc2_w 51, 3) := by decide +kernel
theorem dX9_wordOf_63 : decode cX9_wordOf 63 = .ok (.bipush 105, 2) := by decide +kernel
theorem dX9_wordOf_65 : decode cX9_wordOf 65 = .ok (.bipush 110, 2) := by decide +kernel
theorem dX9_wordOf_67 : decode cX9_wordOf 67 = .ok (.bipush 100, 2) := by decide +kernel
theorem dX9_wordOf_69 : decode cX9_wordOf 69 = .ok (.bipush 101, 2) := by decide +kernel
theorem dX9_wordOf_71 : decode cX9_wordOf 71 = .ok (.invokestatic 55, 3) := by decide +kernel
theorem dX9_wordOf_74 : decode cX9_wordOf 74 = .ok (.lmul, 1) := by decide +kernel
theorem dX9_wordOf_75 : decode cX9_wordOf 75 = .ok (.ldc2_w 61, 3) := by decide +kernel
theorem dX9_wordOf_78 : decode cX9_wordOf 78 = .ok (.ladd, 1) := by decide +kernel
theorem dX9_wordOf_79 : decode cX9_wordOf 79 = .ok (.lreturn, 1) := by decide +kernel
theorem dX9_wordOf_80 : decode cX9_wordOf 80 = .ok (.ldc2_w 63, 3) := by decide +kernel
theorem dX9_wordOf_83 : decode cX9_wordOf 83 = .ok (.bipush 99, 2) := by decide +kernel
theorem dX9_wordOf_85 : decode cX9_wordOf 85 = .ok (.bipush 111, 2) := by decide +kernel
theorem dX9_wordOf_87 : decode cX9_wordOf 87 = .ok (.bipush 110, 2) := by decide +kernel
theorem dX9_wordOf_89 : decode cX9_wordOf 89 = .ok (.bipush 116, 2) := by decide +kernel
theorem dX9_wordOf_91 : decode cX9_wordOf 91 = .ok (.invokestatic 55, 3) := by decide +kernel
theorem dX9_wordOf_94 : decode cX9_wordOf 94 = .ok (.lmul, 1) := by decide +kernel
theorem dX9_wordOf_95 : decode cX9_wordOf 95 = .ok (.bipush 114, 2) := by decide +kernel
theorem dX9_wordOf_97 : decode cX9_wordOf 97 = .ok (.bipush 97, 2) := by decide +kernel
theorem dX9_wordOf_99 : decode cX9_wordOf 99 = .ok (.bipush 99, 2) := by decide +kernel
theorem dX9_wordOf_101 : decode cX9_wordOf 101 = .ok (.bipush 116, 2) := by decide +kernel
theorem dX9_wordOf_103 : decode cX9_wordOf 103 = .ok (.invokestatic 55, 3) := by decide +kernel
theorem dX9_wordOf_106 : decode cX9_wordOf 106 = .ok (.ladd, 1) := by decide +kernel
theorem dX9_wordOf_107 : decode cX9_wordOf 107 = .ok (.lreturn, 1) := by decide +kernel
theorem dX9_wordOf_108 : decode cX9_wordOf 108 = .ok (.bipush 98, 2) := by decide +kernel
theorem dX9_wordOf_110 : decode cX9_wordOf 110 = .ok (.bipush 97, 2) := by decide +kernel
theorem dX9_wordOf_112 : decode cX9_wordOf 112 = .ok (.bipush 115, 2) := by decide +kernel
theorem dX9_wordOf_114 : decode cX9_wordOf 114 = .ok (.bipush 101, 2) := by decide +kernel
theorem dX9_wordOf_116 : decode cX9_wordOf 116 = .ok (.invokestatic 55, 3) := by decide +kernel
theorem dX9_wordOf_119 : decode cX9_wordOf 119 = .ok (.lreturn, 1) := by decide +kernel
theorem dX9_wordOf_120 : decode cX9_wordOf 120 = .ok (.ldc2_w 65, 3) := by decide +kernel
theorem dX9_wordOf_123 : decode cX9_wordOf 123 = .ok (.lreturn, 1) := by decide +kernel
theorem dX9_wordOf_124 : decode cX9_wordOf 124 = .ok (.ldc2_w 67, 3) := by decide +kernel
theorem dX9_wordOf_127 : decode cX9_wordOf 127 = .ok (.bipush 98, 2) := by decide +kernel
theorem dX9_wordOf_129 : decode cX9_wordOf 129 = .ok (.bipush 101, 2) := by decide +kernel
theorem dX9_wordOf_131 : decode cX9_wordOf 131 = .ok (.bipush 121, 2) := by decide +kernel
theorem dX9_wordOf_133 : decode cX9_wordOf 133 = .ok (.bipush 111, 2) := by decide +kernel
theorem dX9_wordOf_135 : decode cX9_wordOf 135 = .ok (.invokestatic 55, 3) := by decide +kernel
theorem dX9_wordOf_138 : decode cX9_wordOf 138 = .ok (.lmul, 1) := by decide +kernel
theorem dX9_wordOf_139 : decode cX9_wordOf 139 = .ok (.ldc2_w 69, 3) := by decide +kernel
theorem dX9_wordOf_142 : decode cX9_wordOf 142 = .ok (.ladd, 1) := by decide +kernel
theorem dX9_wordOf_143 : decode cX9_wordOf 143 = .ok (.ldc2_w 71, 3) := by decide +kernel
theorem dX9_wordOf_146 : decode cX9_wordOf 146 = .ok (.ladd, 1) := by decide +kernel
theorem dX9_wordOf_147 : decode cX9_wordOf 147 = .ok (.lreturn, 1) := by decide +kernel
theorem dX9_wordOf_148 : decode cX9_wordOf 148 = .ok (.ldc2_w 51, 3) := by decide +kernel
theorem dX9_wordOf_151 : decode cX9_wordOf 151 = .ok (.bipush 115, 2) := by decide +kernel
theorem dX9_wordOf_153 : decode cX9_wordOf 153 = .ok (.bipush 104, 2) := by decide +kernel
theorem dX9_wordOf_155 : decode cX9_wordOf 155 = .ok (.bipush 97, 2) := by decide +kernel
theorem dX9_wordOf_157 : decode cX9_wordOf 157 = .ok (.bipush 114, 2) := by decide +kernel
theorem dX9_wordOf_159 : decode cX9_wordOf 159 = .ok (.invokestatic 55, 3) := by decide +kernel
theorem dX9_wordOf_162 : decode cX9_wordOf 162 = .ok (.lmul, 1) := by decide +kernel
theorem dX9_wordOf_163 : decode cX9_wordOf 163 = .ok (.ldc2_w 73, 3) := by decide +kernel
theorem dX9_wordOf_166 : decode cX9_wordOf 166 = .ok (.ladd, 1) := by decide +kernel
theorem dX9_wordOf_167 : decode cX9_wordOf 167 = .ok (.lreturn, 1) := by decide +kernel
theorem dX9_is_0 : decode cX9_is 0 = .ok (.aload_n 0, 1) := by decide +kernel
theorem dX9_is_1 : decode cX9_is 1 = .ok (.getfield 27, 3) := by decide +kernel
theorem dX9_is_4 : decode cX9_is 4 = .ok (.iconst 2, 1) := by decide +kernel
theorem dX9_is_5 : decode cX9_is 5 = .ok (.if_icmp .ne 19, 3) := by decide +kernel
theorem dX9_is_8 : decode cX9_is 8 = .ok (.aload_n 0, 1) := by decide +kernel
theorem dX9_is_9 : decode cX9_is 9 = .ok (.getfield 40, 3) := by decide +kernel
theorem dX9_is_12 : decode cX9_is 12 = .ok (.iload_n 1, 1) := by decide +kernel
theorem dX9_is_13 : decode cX9_is 13 = .ok (.invokestatic 75, 3) := by decide +kernel
theorem dX9_is_16 : decode cX9_is 16 = .ok (.lcmp, 1) := by decide +kernel
theorem dX9_is_17 : decode cX9_is 17 = .ok (.ifCond .ne 7, 3) := by decide +kernel
theorem dX9_is_20 : decode cX9_is 20 = .ok (.iconst 1, 1) := by decide +kernel
theorem dX9_is_21 : decode cX9_is 21 = .ok (.goto 4, 3) := by decide +kernel
theorem dX9_is_24 : decode cX9_is 24 = .ok (.iconst 0, 1) := by decide +kernel
theorem dX9_is_25 : decode cX9_is 25 = .ok (.ireturn, 1) := by decide +kernel
theorem dX9_isName_0 : decode cX9_isName 0 = .ok (.aload_n 0, 1) := by decide +kernel
theorem dX9_isName_1 : decode cX9_isName 1 = .ok (.getfield 27, 3) := by decide +kernel
theorem dX9_isName_4 : decode cX9_isName 4 = .ok (.iconst 2, 1) := by decide +kernel
theorem dX9_isName_5 : decode cX9_isName 5 = .ok (.if_icmp .ne 7, 3) := by decide +kernel
theorem dX9_isName_8 : decode cX9_isName 8 = .ok (.iconst 1, 1) := by decide +kernel
theorem dX9_isName_9 : decode cX9_isName 9 = .ok (.goto 4, 3) := by decide +kernel
theorem dX9_isName_12 : decode cX9_isName 12 = .ok (.iconst 0, 1) := by decide +kernel
theorem dX9_isName_13 : decode cX9_isName 13 = .ok (.istore_n 1, 1) := by decide +kernel
theorem dX9_isName_14 : decode cX9_isName 14 = .ok (.iconst 0, 1) := by decide +kernel
theorem dX9_isName_15 : decode cX9_isName 15 = .ok (.istore_n 2, 1) := by decide +kernel
theorem dX9_isName_16 : decode cX9_isName 16 = .ok (.iload_n 2, 1) := by decide +kernel
theorem dX9_isName_17 : decode cX9_isName 17 = .ok (.bipush 6, 2) := by decide +kernel
theorem dX9_isName_19 : decode cX9_isName 19 = .ok (.if_icmp .gt 31, 3) := by decide +kernel
theorem dX9_isName_22 : decode cX9_isName 22 = .ok (.iload_n 1, 1) := by decide +kernel
theorem dX9_isName_23 : decode cX9_isName 23 = .ok (.ifCond .eq 19, 3) := by decide +kernel
theorem dX9_isName_26 : decode cX9_isName 26 = .ok (.aload_n 0, 1) := by decide +kernel
theorem dX9_isName_27 : decode cX9_isName 27 = .ok (.getfield 40, 3) := by decide +kernel
theorem dX9_isName_30 : decode cX9_isName 30 = .ok (.iload_n 2, 1) := by decide +kernel
theorem dX9_isName_31 : decode cX9_isName 31 = .ok (.invokestatic 75, 3) := by decide +kernel
theorem dX9_isName_34 : decode cX9_isName 34 = .ok (.lcmp, 1) := by decide +kernel
theorem dX9_isName_35 : decode cX9_isName 35 = .ok (.ifCond .eq 7, 3) := by decide +kernel
theorem dX9_isName_38 : decode cX9_isName 38 = .ok (.iconst 1, 1) := by decide +kernel
theorem dX9_isName_39 : decode cX9_isName 39 = .ok (.goto 4, 3) := by decide +kernel
theorem dX9_isName_42 : decode cX9_isName 42 = .ok (.iconst 0, 1) := by decide +kernel
theorem dX9_isName_43 : decode cX9_isName 43 = .ok (.istore_n 1, 1) := by decide +kernel
theorem dX9_isName_44 : decode cX9_isName 44 = .ok (.iinc 2 1, 3) := by decide +kernel
theorem dX9_isName_47 : decode cX9_isName 47 = .ok (.goto (-31), 3) := by decide +kernel
theorem dX9_isName_50 : decode cX9_isName 50 = .ok (.iload_n 1, 1) := by decide +kernel
theorem dX9_isName_51 : decode cX9_isName 51 = .ok (.ireturn, 1) := by decide +kernel
theorem dX9_isSign_0 : decode cX9_isSign 0 = .ok (.aload_n 0, 1) := by decide +kernel
theorem dX9_isSign_1 : decode cX9_isSign 1 = .ok (.getfield 27, 3) := by decide +kernel
theorem dX9_isSign_4 : decode cX9_isSign 4 = .ok (.iconst 4, 1) := by decide +kernel
theorem dX9_isSign_5 : decode cX9_isSign 5 = .ok (.if_icmp .ne 15, 3) := by decide +kernel
theorem dX9_isSign_8 : decode cX9_isSign 8 = .ok (.aload_n 0, 1) := by decide +kernel
theorem dX9_isSign_9 : decode cX9_isSign 9 = .ok (.getfield 37, 3) := by decide +kernel
theorem dX9_isSign_12 : decode cX9_isSign 12 = .ok (.iload_n 1, 1) := by decide +kernel
theorem dX9_isSign_13 : decode cX9_isSign 13 = .ok (.if_icmp .ne 7, 3) := by decide +kernel
theorem dX9_isSign_16 : decode cX9_isSign 16 = .ok (.iconst 1, 1) := by decide +kernel
theorem dX9_isSign_17 : decode cX9_isSign 17 = .ok (.goto 4, 3) := by decide +kernel
theorem dX9_isSign_20 : decode cX9_isSign 20 = .ok (.iconst 0, 1) := by decide +kernel
theorem dX9_isSign_21 : decode cX9_isSign 21 = .ok (.ireturn, 1) := by decide +kernel
theorem dX9_bad_0 : decode cX9_bad 0 = .ok (.aload_n 0, 1) := by decide +kernel
theorem dX9_bad_1 : decode cX9_bad 1 = .ok (.aload_n 0, 1) := by decide +kernel
theorem dX9_bad_2 : decode cX9_bad 2 = .ok (.getfield 27, 3) := by decide +kernel
theorem dX9_bad_5 : decode cX9_bad 5 = .ok (.iconst 1, 1) := by decide +kernel
theorem dX9_bad_6 : decode cX9_bad 6 = .ok (.if_icmp .ne 7, 3) := by decide +kernel
theorem dX9_bad_9 : decode cX9_bad 9 = .ok (.iconst 1, 1) := by decide +kernel
theorem dX9_bad_10 : decode cX9_bad 10 = .ok (.goto 4, 3) := by decide +kernel
theorem dX9_bad_13 : decode cX9_bad 13 = .ok (.iload_n 1, 1) := by decide +kernel
theorem dX9_bad_14 : decode cX9_bad 14 = .ok (.putfield 79, 3) := by decide +kernel
theorem dX9_bad_17 : decode cX9_bad 17 = .ok (.aload_n 0, 1) := by decide +kernel
theorem dX9_bad_18 : decode cX9_bad 18 = .ok (.aload_n 0, 1) := by decide +kernel
theorem dX9_bad_19 : decode cX9_bad 19 = .ok (.getfield 24, 3) := by decide +kernel
theorem dX9_bad_22 : decode cX9_bad 22 = .ok (.putfield 82, 3) := by decide +kernel
theorem dX9_bad_25 : decode cX9_bad 25 = .ok (.iconst 0, 1) := by decide +kernel
theorem dX9_bad_26 : decode cX9_bad 26 = .ok (.ireturn, 1) := by decide +kernel
theorem dX9_init_0 : decode cX9_init 0 = .ok (.aload_n 0, 1) := by decide +kernel
theorem dX9_init_1 : decode cX9_init 1 = .ok (.invokespecial 85, 3) := by decide +kernel
theorem dX9_init_4 : decode cX9_init 4 = .ok (.aload_n 0, 1) := by decide +kernel
theorem dX9_init_5 : decode cX9_init 5 = .ok (.sipush 740, 3) := by decide +kernel
theorem dX9_init_8 : decode cX9_init 8 = .ok (.newarray .int, 2) := by decide +kernel
theorem dX9_init_10 : decode cX9_init 10 = .ok (.putfield 7, 3) := by decide +kernel
theorem dX9_init_13 : decode cX9_init 13 = .ok (.aload_n 0, 1) := by decide +kernel
theorem dX9_init_14 : decode cX9_init 14 = .ok (.sipush 880, 3) := by decide +kernel
theorem dX9_init_17 : decode cX9_init 17 = .ok (.newarray .int, 2) := by decide +kernel
theorem dX9_init_19 : decode cX9_init 19 = .ok (.putfield 91, 3) := by decide +kernel
theorem dX9_init_22 : decode cX9_init 22 = .ok (.aload_n 0, 1) := by decide +kernel
theorem dX9_init_23 : decode cX9_init 23 = .ok (.sipush 880, 3) := by decide +kernel
theorem dX9_init_26 : decode cX9_init 26 = .ok (.newarray .int, 2) := by decide +kernel
theorem dX9_init_28 : decode cX9_init 28 = .ok (.putfield 94, 3) := by decide +kernel
theorem dX9_init_31 : decode cX9_init 31 = .ok (.aload_n 0, 1) := by decide +kernel
theorem dX9_init_32 : decode cX9_init 32 = .ok (.sipush 7040, 3) := by decide +kernel
theorem dX9_init_35 : decode cX9_init 35 = .ok (.newarray .int, 2) := by decide +kernel
theorem dX9_init_37 : decode cX9_init 37 = .ok (.putfield 97, 3) := by decide +kernel
theorem dX9_init_40 : decode cX9_init 40 = .ok (.aload_n 0, 1) := by decide +kernel
theorem dX9_init_41 : decode cX9_init 41 = .ok (.bipush 6, 2) := by decide +kernel
theorem dX9_init_43 : decode cX9_init 43 = .ok (.newarray .long, 2) := by decide +kernel
theorem dX9_init_45 : decode cX9_init 45 = .ok (.putfield 100, 3) := by decide +kernel
theorem dX9_init_48 : decode cX9_init 48 = .ok (.return_, 1) := by decide +kernel
theorem dX9_told_0 : decode cX9_told 0 = .ok (.aload_n 0, 1) := by decide +kernel
theorem dX9_told_1 : decode cX9_told 1 = .ok (.getfield 27, 3) := by decide +kernel
theorem dX9_told_4 : decode cX9_told 4 = .ok (.iconst 3, 1) := by decide +kernel
theorem dX9_told_5 : decode cX9_told 5 = .ok (.if_icmp .eq 9, 3) := by decide +kernel
theorem dX9_told_8 : decode cX9_told 8 = .ok (.aload_n 0, 1) := by decide +kernel
theorem dX9_told_9 : decode cX9_told 9 = .ok (.iconst 1, 1) := by decide +kernel
theorem dX9_told_10 : decode cX9_told 10 = .ok (.invokevirtual 104, 3) := by decide +kernel
theorem dX9_told_13 : decode cX9_told 13 = .ok (.ireturn, 1) := by decide +kernel
theorem dX9_told_14 : decode cX9_told 14 = .ok (.aload_n 0, 1) := by decide +kernel
theorem dX9_told_15 : decode cX9_told 15 = .ok (.getfield 44, 3) := by decide +kernel
theorem dX9_told_18 : decode cX9_told 18 = .ok (.iload_n 2, 1) := by decide +kernel
theorem dX9_told_19 : decode cX9_told 19 = .ok (.iload_n 3, 1) := by decide +kernel
theorem dX9_told_20 : decode cX9_told 20 = .ok (.invokestatic 107, 3) := by decide +kernel
theorem dX9_told_23 : decode cX9_told 23 = .ok (.ifCond .ne 9, 3) := by decide +kernel
theorem dX9_told_26 : decode cX9_told 26 = .ok (.aload_n 0, 1) := by decide +kernel
theorem dX9_told_27 : decode cX9_told 27 = .ok (.iconst 2, 1) := by decide +kernel
theorem dX9_told_28 : decode cX9_told 28 = .ok (.invokevirtual 104, 3) := by decide +kernel
theorem dX9_told_31 : decode cX9_told 31 = .ok (.ireturn, 1) := by decide +kernel
theorem dX9_told_32 : decode cX9_told 32 = .ok (.aload_n 0, 1) := by decide +kernel
theorem dX9_told_33 : decode cX9_told 33 = .ok (.getfield 94, 3) := by decide +kernel
theorem dX9_told_36 : decode cX9_told 36 = .ok (.iload_n 1, 1) := by decide +kernel
theorem dX9_told_37 : decode cX9_told 37 = .ok (.aload_n 0, 1) := by decide +kernel
theorem dX9_told_38 : decode cX9_told 38 = .ok (.getfield 44, 3) := by decide +kernel
theorem dX9_told_41 : decode cX9_told 41 = .ok (.iastore, 1) := by decide +kernel
theorem dX9_told_42 : decode cX9_told 42 = .ok (.aload_n 0, 1) := by decide +kernel
theorem dX9_told_43 : decode cX9_told 43 = .ok (.invokevirtual 111, 3) := by decide +kernel
theorem dX9_told_46 : decode cX9_told 46 = .ok (.iconst 1, 1) := by decide +kernel
theorem dX9_told_47 : decode cX9_told 47 = .ok (.ireturn, 1) := by decide +kernel
theorem dX9_named_0 : decode cX9_named 0 = .ok (.iconst 0, 1) := by decide +kernel
theorem dX9_named_1 : decode cX9_named 1 = .ok (.istore_n 1, 1) := by decide +kernel
theorem dX9_named_2 : decode cX9_named 2 = .ok (.iload_n 1, 1) := by decide +kernel
theorem dX9_named_3 : decode cX9_named 3 = .ok (.aload_n 0, 1) := by decide +kernel
theorem dX9_named_4 : decode cX9_named 4 = .ok (.getfield 94, 3) := by decide +kernel
theorem dX9_named_7 : decode cX9_named 7 = .ok (.iconst 1, 1) := by decide +kernel
theorem dX9_named_8 : decode cX9_named 8 = .ok (.iaload, 1) := by decide +kernel
theorem dX9_named_9 : decode cX9_named 9 = .ok (.if_icmp .ge 25, 3) := by decide +kernel
theorem dX9_named_12 : decode cX9_named 12 = .ok (.aload_n 0, 1) := by decide +kernel
theorem dX9_named_13 : decode cX9_named 13 = .ok (.getfield 100, 3) := by decide +kernel
theorem dX9_named_16 : decode cX9_named 16 = .ok (.iload_n 1, 1) := by decide +kernel
theorem dX9_named_17 : decode cX9_named 17 = .ok (.laload, 1) := by decide +kernel
theorem dX9_named_18 : decode cX9_named 18 = .ok (.aload_n 0, 1) := by decide +kernel
theorem dX9_named_19 : decode cX9_named 19 = .ok (.getfield 40, 3) := by decide +kernel
theorem dX9_named_22 : decode cX9_named 22 = .ok (.lcmp, 1) := by decide +kernel
theorem dX9_named_23 : decode cX9_named 23 = .ok (.ifCond .ne 5, 3) := by decide +kernel
theorem dX9_named_26 : decode cX9_named 26 = .ok (.iload_n 1, 1) := by decide +kernel
theorem dX9_named_27 : decode cX9_named 27 = .ok (.ireturn, 1) := by decide +kernel
theorem dX9_named_28 : decode cX9_named 28 = .ok (.iinc 1 1, 3) := by decide +kernel
theorem dX9_named_31 : decode cX9_named 31 = .ok (.goto (-29), 3) := by decide +kernel
theorem dX9_named_34 : decode cX9_named 34 = .ok (.iconst (-1), 1) := by decide +kernel
theorem dX9_named_35 : decode cX9_named 35 = .ok (.ireturn, 1) := by decide +kernel
theorem dX9_readWord_0 : decode cX9_readWord 0 = .ok (.aload_n 0, 1) := by decide +kernel
theorem dX9_readWord_1 : decode cX9_readWord 1 = .ok (.iload_n 1, 1) := by decide +kernel
theorem dX9_readWord_2 : decode cX9_readWord 2 = .ok (.invokevirtual 114, 3) := by decide +kernel
theorem dX9_readWord_5 : decode cX9_readWord 5 = .ok (.ifCond .ne 9, 3) := by decide +kernel
theorem dX9_readWord_8 : decode cX9_readWord 8 = .ok (.aload_n 0, 1) := by decide +kernel
theorem dX9_readWord_9 : decode cX9_readWord 9 = .ok (.iconst 1, 1) := by decide +kernel
theorem dX9_readWord_10 : decode cX9_readWord 10 = .ok (.invokevirtual 104, 3) := by decide +kernel
theorem dX9_readWord_13 : decode cX9_readWord 13 = .ok (.ireturn, 1) := by decide +kernel
theorem dX9_readWord_14 : decode cX9_readWord 14 = .ok (.aload_n 0, 1) := by decide +kernel
theorem dX9_readWord_15 : decode cX9_readWord 15 = .ok (.invokevirtual 111, 3) := by decide +kernel
theorem dX9_readWord_18 : decode cX9_readWord 18 = .ok (.iconst 1, 1) := by decide +kernel
theorem dX9_readWord_19 : decode cX9_readWord 19 = .ok (.ireturn, 1) := by decide +kernel
theorem dX9_readIndex_0 : decode cX9_readIndex 0 = .ok (.aload_n 0, 1) := by decide +kernel
theorem dX9_readIndex_1 : decode cX9_readIndex 1 = .ok (.getfield 94, 3) := by decide +kernel
theorem dX9_readIndex_4 : decode cX9_readIndex 4 = .ok (.iconst 1, 1) := by decide +kernel
theorem dX9_readIndex_5 : decode cX9_readIndex 5 = .ok (.iaload, 1) := by decide +kernel
theorem dX9_readIndex_6 : decode cX9_readIndex 6 = .ok (.istore_n 1, 1) := by decide +kernel
theorem dX9_readIndex_7 : decode cX9_readIndex 7 = .ok (.iload_n 1, 1) := by decide +kernel
theorem dX9_readIndex_8 : decode cX9_readIndex 8 = .ok (.bipush 6, 2) := by decide +kernel
theorem dX9_readIndex_10 : decode cX9_readIndex 10 = .ok (.if_icmp .ne 9, 3) := by decide +kernel
theorem dX9_readIndex_13 : decode cX9_readIndex 13 = .ok (.aload_n 0, 1) := by decide +kernel
theorem dX9_readIndex_14 : decode cX9_readIndex 14 = .ok (.iconst 4, 1) := by decide +kernel
theorem dX9_readIndex_15 : decode cX9_readIndex 15 = .ok (.invokevirtual 104, 3) := by decide +kernel
theorem dX9_readIndex_18 : decode cX9_readIndex 18 = .ok (.ireturn, 1) := by decide +kernel
theorem dX9_readIndex_19 : decode cX9_readIndex 19 = .ok (.aload_n 0, 1) := by decide +kernel
theorem dX9_readIndex_20 : decode cX9_readIndex 20 = .ok (.invokevirtual 111, 3) := by decide +kernel
theorem dX9_readIndex_23 : decode cX9_readIndex 23 = .ok (.aload_n 0, 1) := by decide +kernel
theorem dX9_readIndex_24 : decode cX9_readIndex 24 = .ok (.invokevirtual 117, 3) := by decide +kernel
theorem dX9_readIndex_27 : decode cX9_readIndex 27 = .ok (.ifCond .ne 9, 3) := by decide +kernel
theorem dX9_readIndex_30 : decode cX9_readIndex 30 = .ok (.aload_n 0, 1) := by decide +kernel
theorem dX9_readIndex_31 : decode cX9_readIndex 31 = .ok (.iconst 1, 1) := by decide +kernel
theorem dX9_readIndex_32 : decode cX9_readIndex 32 = .ok (.invokevirtual 104, 3) := by decide +kernel
theorem dX9_readIndex_35 : decode cX9_readIndex 35 = .ok (.ireturn, 1) := by decide +kernel
theorem dX9_readIndex_36 : decode cX9_readIndex 36 = .ok (.aload_n 0, 1) := by decide +kernel
theorem dX9_readIndex_37 : decode cX9_readIndex 37 = .ok (.invokevirtual 121, 3) := by decide +kernel
theorem dX9_readIndex_40 : decode cX9_readIndex 40 = .ok (.iconst (-1), 1) := by decide +kernel
theorem dX9_readIndex_41 : decode cX9_readIndex 41 = .ok (.if_icmp .eq 9, 3) := by decide +kernel
theorem dX9_readIndex_44 : decode cX9_readIndex 44 = .ok (.aload_n 0, 1) := by decide +kernel
theorem dX9_readIndex_45 : decode cX9_readIndex 45 = .ok (.iconst 3, 1) := by decide +kernel
theorem dX9_readIndex_46 : decode cX9_readIndex 46 = .ok (.invokevirtual 104, 3) := by decide +kernel
theorem dX9_readIndex_49 : decode cX9_readIndex 49 = .ok (.ireturn, 1) := by decide +kernel
theorem dX9_readIndex_50 : decode cX9_readIndex 50 = .ok (.aload_n 0, 1) := by decide +kernel
theorem dX9_readIndex_51 : decode cX9_readIndex 51 = .ok (.getfield 100, 3) := by decide +kernel
theorem dX9_readIndex_54 : decode cX9_readIndex 54 = .ok (.iload_n 1, 1) := by decide +kernel
theorem dX9_readIndex_55 : decode cX9_readIndex 55 = .ok (.aload_n 0, 1) := by decide +kernel
theorem dX9_readIndex_56 : decode cX9_readIndex 56 = .ok (.getfield 40, 3) := by decide +kernel
theorem dX9_readIndex_59 : decode cX9_readIndex 59 = .ok (.lastore, 1) := by decide +kernel
theorem dX9_readIndex_60 : decode cX9_readIndex 60 = .ok (.aload_n 0, 1) := by decide +kernel
theorem dX9_readIndex_61 : decode cX9_readIndex 61 = .ok (.invokevirtual 111, 3) := by decide +kernel
theorem dX9_readIndex_64 : decode cX9_readIndex 64 = .ok (.aload_n 0, 1) := by decide +kernel
theorem dX9_readIndex_65 : decode cX9_readIndex 65 = .ok (.getfield 27, 3) := by decide +kernel
theorem dX9_readIndex_68 : decode cX9_readIndex 68 = .ok (.iconst 3, 1) := by decide +kernel
theorem dX9_readIndex_69 : decode cX9_readIndex 69 = .ok (.if_icmp .eq 9, 3) := by decide +kernel
theorem dX9_readIndex_72 : decode cX9_readIndex 72 = .ok (.aload_n 0, 1) := by decide +kernel
theorem dX9_readIndex_73 : decode cX9_readIndex 73 = .ok (.iconst 1, 1) := by decide +kernel
theorem dX9_readIndex_74 : decode cX9_readIndex 74 = .ok (.invokevirtual 104, 3) := by decide +kernel
theorem dX9_readIndex_77 : decode cX9_readIndex 77 = .ok (.ireturn, 1) := by decide +kernel
theorem dX9_readIndex_78 : decode cX9_readIndex 78 = .ok (.iconst 0, 1) := by decide +kernel
theorem dX9_readIndex_79 : decode cX9_readIndex 79 = .ok (.istore_n 2, 1) := by decide +kernel
theorem dX9_readIndex_80 : decode cX9_readIndex 80 = .ok (.aload_n 0, 1) := by decide +kernel
theorem dX9_readIndex_81 : decode cX9_readIndex 81 = .ok (.getfield 27, 3) := by decide +kernel
theorem dX9_readIndex_84 : decode cX9_readIndex 84 = .ok (.iconst 3, 1) := by decide +kernel
theorem dX9_readIndex_85 : decode cX9_readIndex 85 = .ok (.if_icmp .ne 62, 3) := by decide +kernel
theorem dX9_readIndex_88 : decode cX9_readIndex 88 = .ok (.iload_n 2, 1) := by decide +kernel
theorem dX9_readIndex_89 : decode cX9_readIndex 89 = .ok (.aload_n 0, 1) := by decide +kernel
theorem dX9_readIndex_90 : decode cX9_readIndex 90 = .ok (.getfield 94, 3) := by decide +kernel
theorem dX9_readIndex_93 : decode cX9_readIndex 93 = .ok (.iconst 0, 1) := by decide +kernel
theorem dX9_readIndex_94 : decode cX9_readIndex 94 = .ok (.iaload, 1) := by decide +kernel
theorem dX9_readIndex_95 : decode cX9_readIndex 95 = .ok (.if_icmp .le 9, 3) := by decide +kernel
theorem dX9_readIndex_98 : decode cX9_readIndex 98 = .ok (.aload_n 0, 1) := by decide +kernel
theorem dX9_readIndex_99 : decode cX9_readIndex 99 = .ok (.iconst 2, 1) := by decide +kernel
theorem dX9_readIndex_100 : decode cX9_readIndex 100 = .ok (.invokevirtual 104, 3) := by decide +kernel
theorem dX9_readIndex_103 : decode cX9_readIndex 103 = .ok (.ireturn, 1) := by decide +kernel
theorem dX9_readIndex_104 : decode cX9_readIndex 104 = .ok (.aload_n 0, 1) := by decide +kernel
theorem dX9_readIndex_105 : decode cX9_readIndex 105 = .ok (.iconst 2, 1) := by decide +kernel
theorem dX9_readIndex_106 : decode cX9_readIndex 106 = .ok (.bipush 36, 2) := by decide +kernel
theorem dX9_readIndex_108 : decode cX9_readIndex 108 = .ok (.iload_n 1, 1) := by decide +kernel
theorem dX9_readIndex_109 : decode cX9_readIndex 109 = .ok (.imul, 1) := by decide +kernel
theorem dX9_readIndex_110 : decode cX9_readIndex 110 = .ok (.iadd, 1) := by decide +kernel
theorem dX9_readIndex_111 : decode cX9_readIndex 111 = .ok (.iload_n 2, 1) := by decide +kernel
theorem dX9_readIndex_112 : decode cX9_readIndex 112 = .ok (.iadd, 1) := by decide +kernel
theorem dX9_readIndex_113 : decode cX9_readIndex 113 = .ok (.iconst 1, 1) := by decide +kernel
theorem dX9_readIndex_114 : decode cX9_readIndex 114 = .ok (.sipush 999, 3) := by decide +kernel
theorem dX9_readIndex_117 : decode cX9_readIndex 117 = .ok (.invokevirtual 125, 3) := by decide +kernel
theorem dX9_readIndex_120 : decode cX9_readIndex 120 = .ok (.ifCond .ne 5, 3) := by decide +kernel
theorem dX9_readIndex_123 : decode cX9_readIndex 123 = .ok (.iconst 0, 1) := by decide +kernel
theorem dX9_readIndex_124 : decode cX9_readIndex 124 = .ok (.ireturn, 1) := by decide +kernel
theorem dX9_readIndex_125 : decode cX9_readIndex 125 = .ok (.aload_n 0, 1) := by decide +kernel
theorem dX9_readIndex_126 : decode cX9_readIndex 126 = .ok (.getfield 94, 3) := by decide +kernel
theorem dX9_readIndex_129 : decode cX9_readIndex 129 = .ok (.sipush 218, 3) := by decide +kernel
theorem dX9_readIndex_132 : decode cX9_readIndex 132 = .ok (.bipush 36, 2) := by decide +kernel
theorem dX9_readIndex_134 : decode cX9_readIndex 134 = .ok (.iload_n 1, 1) := by decide +kernel
theorem dX9_readIndex_135 : decode cX9_readIndex 135 = .ok (.imul, 1) := by decide +kernel
theorem dX9_readIndex_136 : decode cX9_readIndex 136 = .ok (.iadd, 1) := by decide +kernel
theorem dX9_readIndex_137 : decode cX9_readIndex 137 = .ok (.iload_n 2, 1) := by decide +kernel
theorem dX9_readIndex_138 : decode cX9_readIndex 138 = .ok (.iadd, 1) := by decide +kernel
theorem dX9_readIndex_139 : decode cX9_readIndex 139 = .ok (.iconst 2, 1) := by decide +kernel
theorem dX9_readIndex_140 : decode cX9_readIndex 140 = .ok (.iastore, 1) := by decide +kernel
theorem dX9_readIndex_141 : decode cX9_readIndex 141 = .ok (.iinc 2 1, 3) := by decide +kernel
theorem dX9_readIndex_144 : decode cX9_readIndex 144 = .ok (.goto (-64), 3) := by decide +kernel
theorem dX9_readIndex_147 : decode cX9_readIndex 147 = .ok (.aload_n 0, 1) := by decide +kernel
theorem dX9_readIndex_148 : decode cX9_readIndex 148 = .ok (.getfield 94, 3) := by decide +kernel
theorem dX9_readIndex_151 : decode cX9_readIndex 151 = .ok (.iconst 1, 1) := by decide +kernel
theorem dX9_readIndex_152 : decode cX9_readIndex 152 = .ok (.dup2, 1) := by decide +kernel
theorem dX9_readIndex_153 : decode cX9_readIndex 153 = .ok (.iaload, 1) := by decide +kernel
theorem dX9_readIndex_154 : decode cX9_readIndex 154 = .ok (.iconst 1, 1) := by decide +kernel
theorem dX9_readIndex_155 : decode cX9_readIndex 155 = .ok (.iadd, 1) := by decide +kernel
theorem dX9_readIndex_156 : decode cX9_readIndex 156 = .ok (.iastore, 1) := by decide +kernel
theorem dX9_readIndex_157 : decode cX9_readIndex 157 = .ok (.iconst 1, 1) := by decide +kernel
theorem dX9_readIndex_158 : decode cX9_readIndex 158 = .ok (.ireturn, 1) := by decide +kernel
theorem dX9_readTerms_0 : decode cX9_readTerms 0 = .ok (.aload_n 0, 1) := by decide +kernel
theorem dX9_readTerms_1 : decode cX9_readTerms 1 = .ok (.getfield 94, 3) := by decide +kernel
theorem dX9_readTerms_4 : decode cX9_readTerms 4 = .ok (.iload_n 1, 1) := by decide +kernel
theorem dX9_readTerms_5 : decode cX9_readTerms 5 = .ok (.iconst 1, 1) := by decide +kernel
theorem dX9_readTerms_6 : decode cX9_readTerms 6 = .ok (.iadd, 1) := by decide +kernel
theorem dX9_readTerms_7 : decode cX9_readTerms 7 = .ok (.iaload, 1) := by decide +kernel
theorem dX9_readTerms_8 : decode cX9_readTerms 8 = .ok (.istore_n 2, 1) := by decide +kernel
theorem dX9_readTerms_9 : decode cX9_readTerms 9 = .ok (.aload_n 0, 1) := by decide +kernel
theorem dX9_readTerms_10 : decode cX9_readTerms 10 = .ok (.bipush 43, 2) := by decide +kernel
theorem dX9_readTerms_12 : decode cX9_readTerms 12 = .ok (.invokevirtual 128, 3) := by decide +kernel
theorem dX9_readTerms_15 : decode cX9_readTerms 15 = .ok (.ifCond .eq 197, 3) := by decide +kernel
theorem dX9_readTerms_18 : decode cX9_readTerms 18 = .ok (.aload_n 0, 1) := by decide +kernel
theorem dX9_readTerms_19 : decode cX9_readTerms 19 = .ok (.invokevirtual 111, 3) := by decide +kernel
theorem dX9_readTerms_22 : decode cX9_readTerms 22 = .ok (.aload_n 0, 1) := by decide +kernel
theorem dX9_readTerms_23 : decode cX9_readTerms 23 = .ok (.getfield 94, 3) := by decide +kernel
theorem dX9_readTerms_26 : decode cX9_readTerms 26 = .ok (.iload_n 1, 1) := by decide +kernel
theorem dX9_readTerms_27 : decode cX9_readTerms 27 = .ok (.bipush 6, 2) := by decide +kernel
theorem dX9_readTerms_29 : decode cX9_readTerms 29 = .ok (.iadd, 1) := by decide +kernel
theorem dX9_readTerms_30 : decode cX9_readTerms 30 = .ok (.iaload, 1) := by decide +kernel
theorem dX9_readTerms_31 : decode cX9_readTerms 31 = .ok (.istore_n 3, 1) := by decide +kernel
theorem dX9_readTerms_32 : decode cX9_readTerms 32 = .ok (.iload_n 3, 1) := by decide +kernel
theorem dX9_readTerms_33 : decode cX9_readTerms 33 = .ok (.bipush 6, 2) := by decide +kernel
theorem dX9_readTerms_35 : decode cX9_readTerms 35 = .ok (.if_icmp .ge 14, 3) := by decide +kernel
theorem dX9_readTerms_38 : decode cX9_readTerms 38 = .ok (.iload_n 1, 1) := by decide +kernel
theorem dX9_readTerms_39 : decode cX9_readTerms 39 = .ok (.bipush 7, 2) := by decide +kernel
theorem dX9_readTerms_41 : decode cX9_readTerms 41 = .ok (.iadd, 1) := by decide +kernel
theorem dX9_readTerms_42 : decode cX9_readTerms 42 = .ok (.iconst 2, 1) := by decide +kernel
theorem dX9_readTerms_43 : decode cX9_readTerms 43 = .ok (.iload_n 3, 1) := by decide +kernel
theorem dX9_readTerms_44 : decode cX9_readTerms 44 = .ok (.imul, 1) := by decide +kernel
theorem dX9_readTerms_45 : decode cX9_readTerms 45 = .ok (.iadd, 1) := by decide +kernel
theorem dX9_readTerms_46 : decode cX9_readTerms 46 = .ok (.goto 4, 3) := by decide +kernel
theorem dX9_readTerms_49 : decode cX9_readTerms 49 = .ok (.iconst (-1), 1) := by decide +kernel
theorem dX9_readTerms_50 : decode cX9_readTerms 50 = .ok (.istore 4, 2) := by decide +kernel
theorem dX9_readTerms_52 : decode cX9_readTerms 52 = .ok (.aload_n 0, 1) := by decide +kernel
theorem dX9_readTerms_53 : decode cX9_readTerms 53 = .ok (.getfield 27, 3) := by decide +kernel
theorem dX9_readTerms_56 : decode cX9_readTerms 56 = .ok (.iconst 3, 1) := by decide +kernel
theorem dX9_readTerms_57 : decode cX9_readTerms 57 = .ok (.if_icmp .eq 9, 3) := by decide +kernel
theorem dX9_readTerms_60 : decode cX9_readTerms 60 = .ok (.aload_n 0, 1) := by decide +kernel
theorem dX9_readTerms_61 : decode cX9_readTerms 61 = .ok (.iconst 1, 1) := by decide +kernel
theorem dX9_readTerms_62 : decode cX9_readTerms 62 = .ok (.invokevirtual 104, 3) := by decide +kernel
theorem dX9_readTerms_65 : decode cX9_readTerms 65 = .ok (.ireturn, 1) := by decide +kernel
theorem dX9_readTerms_66 : decode cX9_readTerms 66 = .ok (.aload_n 0, 1) := by decide +kernel
theorem dX9_readTerms_67 : decode cX9_readTerms 67 = .ok (.getfield 44, 3) := by decide +kernel
theorem dX9_readTerms_70 : decode cX9_readTerms 70 = .ok (.iconst 0, 1) := by decide +kernel
theorem dX9_readTerms_71 : decode cX9_readTerms 71 = .ok (.sipush 1000, 3) := by decide +kernel
theorem dX9_readTerms_74 : decode cX9_readTerms 74 = .ok (.invokestatic 107, 3) := by decide +kernel
theorem dX9_readTerms_77 : decode cX9_readTerms 77 = .ok (.ifCond .ne 9, 3) := by decide +kernel
theorem dX9_readTerms_80 : decode cX9_readTerms 80 = .ok (.aload_n 0, 1) := by decide +kernel
theorem dX9_readTerms_81 : decode cX9_readTerms 81 = .ok (.iconst 2, 1) := by decide +kernel
theorem dX9_readTerms_82 : decode cX9_readTerms 82 = .ok (.invokevirtual 104, 3) := by decide +kernel
theorem dX9_readTerms_85 : decode cX9_readTerms 85 = .ok (.ireturn, 1) := by decide +kernel
theorem dX9_readTerms_86 : decode cX9_readTerms 86 = .ok (.aload_n 0, 1) := by decide +kernel
theorem dX9_readTerms_87 : decode cX9_readTerms 87 = .ok (.getfield 44, 3) := by decide +kernel
theorem dX9_readTerms_90 : decode cX9_readTerms 90 = .ok (.istore 5, 2) := by decide +kernel
theorem dX9_readTerms_92 : decode cX9_readTerms 92 = .ok (.aload_n 0, 1) := by decide +kernel
theorem dX9_readTerms_93 : decode cX9_readTerms 93 = .ok (.invokevirtual 111, 3) := by decide +kernel
theorem dX9_readTerms_96 : decode cX9_readTerms 96 = .ok (.aload_n 0, 1) := by decide +kernel
theorem dX9_readTerms_97 : decode cX9_readTerms 97 = .ok (.invokevirtual 117, 3) := by decide +kernel
theorem dX9_readTerms_100 : decode cX9_readTerms 100 = .ok (.ifCond .ne 9, 3) := by decide +kernel
theorem dX9_readTerms_103 : decode cX9_readTerms 103 = .ok (.aload_n 0, 1) := by decide +kernel
theorem dX9_readTerms_104 : decode cX9_readTerms 104 = .ok (.iconst 1, 1) := by decide +kernel
theorem dX9_readTerms_105 : decode cX9_readTerms 105 = .ok (.invokevirtual 104, 3) := by decide +kernel
theorem dX9_readTerms_108 : decode cX9_readTerms 108 = .ok (.ireturn, 1) := by decide +kernel
theorem dX9_readTerms_109 : decode cX9_readTerms 109 = .ok (.aload_n 0, 1) := by decide +kernel
theorem dX9_readTerms_110 : decode cX9_readTerms 110 = .ok (.invokevirtual 121, 3) := by decide +kernel
theorem dX9_readTerms_113 : decode cX9_readTerms 113 = .ok (.istore 6, 2) := by decide +kernel
theorem dX9_readTerms_115 : decode cX9_readTerms 115 = .ok (.iload 6, 2) := by decide +kernel
theorem dX9_readTerms_117 : decode cX9_readTerms 117 = .ok (.iconst (-1), 1) := by decide +kernel
theorem dX9_readTerms_118 : decode cX9_readTerms 118 = .ok (.if_icmp .ne 9, 3) := by decide +kernel
theorem dX9_readTerms_121 : decode cX9_readTerms 121 = .ok (.aload_n 0, 1) := by decide +kernel
theorem dX9_readTerms_122 : decode cX9_readTerms 122 = .ok (.iconst 3, 1) := by decide +kernel
theorem dX9_readTerms_123 : decode cX9_readTerms 123 = .ok (.invokevirtual 104, 3) := by decide +kernel
theorem dX9_readTerms_126 : decode cX9_readTerms 126 = .ok (.ireturn, 1) := by decide +kernel
theorem dX9_readTerms_127 : decode cX9_readTerms 127 = .ok (.iconst 0, 1) := by decide +kernel
theorem dX9_readTerms_128 : decode cX9_readTerms 128 = .ok (.istore 7, 2) := by decide +kernel
theorem dX9_readTerms_130 : decode cX9_readTerms 130 = .ok (.iload 7, 2) := by decide +kernel
theorem dX9_readTerms_132 : decode cX9_readTerms 132 = .ok (.iload_n 3, 1) := by decide +kernel
theorem dX9_readTerms_133 : decode cX9_readTerms 133 = .ok (.if_icmp .ge 34, 3) := by decide +kernel
theorem dX9_readTerms_136 : decode cX9_readTerms 136 = .ok (.aload_n 0, 1) := by decide +kernel
theorem dX9_readTerms_137 : decode cX9_readTerms 137 = .ok (.getfield 94, 3) := by decide +kernel
theorem dX9_readTerms_140 : decode cX9_readTerms 140 = .ok (.iload_n 1, 1) := by decide +kernel
theorem dX9_readTerms_141 : decode cX9_readTerms 141 = .ok (.bipush 8, 2) := by decide +kernel
theorem dX9_readTerms_143 : decode cX9_readTerms 143 = .ok (.iadd, 1) := by decide +kernel
theorem dX9_readTerms_144 : decode cX9_readTerms 144 = .ok (.iconst 2, 1) := by decide +kernel
theorem dX9_readTerms_145 : decode cX9_readTerms 145 = .ok (.iload 7, 2) := by decide +kernel
theorem dX9_readTerms_147 : decode cX9_readTerms 147 = .ok (.imul, 1) := by decide +kernel
theorem dX9_readTerms_148 : decode cX9_readTerms 148 = .ok (.iadd, 1) := by decide +kernel
theorem dX9_readTerms_149 : decode cX9_readTerms 149 = .ok (.iaload, 1) := by decide +kernel
theorem dX9_readTerms_150 : decode cX9_readTerms 150 = .ok (.iload 6, 2) := by decide +kernel
theorem dX9_readTerms_152 : decode cX9_readTerms 152 = .ok (.if_icmp .ne 9, 3) := by decide +kernel
theorem dX9_readTerms_155 : decode cX9_readTerms 155 = .ok (.aload_n 0, 1) := by decide +kernel
theorem dX9_readTerms_156 : decode cX9_readTerms 156 = .ok (.iconst 3, 1) := by decide +kernel
theorem dX9_readTerms_157 : decode cX9_readTerms 157 = .ok (.invokevirtual 104, 3) := by decide +kernel
theorem dX9_readTerms_160 : decode cX9_readTerms 160 = .ok (.ireturn, 1) := by decide +kernel
theorem dX9_readTerms_161 : decode cX9_readTerms 161 = .ok (.iinc 7 1, 3) := by decide +kernel
theorem dX9_readTerms_164 : decode cX9_readTerms 164 = .ok (.goto (-34), 3) := by decide +kernel
theorem dX9_readTerms_167 : decode cX9_readTerms 167 = .ok (.aload_n 0, 1) := by decide +kernel
theorem dX9_readTerms_168 : decode cX9_readTerms 168 = .ok (.getfield 94, 3) := by decide +kernel
theorem dX9_readTerms_171 : decode cX9_readTerms 171 = .ok (.iload 4, 2) := by decide +kernel
theorem dX9_readTerms_173 : decode cX9_readTerms 173 = .ok (.iload 5, 2) := by decide +kernel
theorem dX9_readTerms_175 : decode cX9_readTerms 175 = .ok (.iastore, 1) := by decide +kernel
theorem dX9_readTerms_176 : decode cX9_readTerms 176 = .ok (.aload_n 0, 1) := by decide +kernel
theorem dX9_readTerms_177 : decode cX9_readTerms 177 = .ok (.getfield 94, 3) := by decide +kernel
theorem dX9_readTerms_180 : decode cX9_readTerms 180 = .ok (.iload 4, 2) := by decide +kernel
theorem dX9_readTerms_182 : decode cX9_readTerms 182 = .ok (.iconst 1, 1) := by decide +kernel
theorem dX9_readTerms_183 : decode cX9_readTerms 183 = .ok (.iadd, 1) := by decide +kernel
theorem dX9_readTerms_184 : decode cX9_readTerms 184 = .ok (.iload 6, 2) := by decide +kernel
theorem dX9_readTerms_186 : decode cX9_readTerms 186 = .ok (.iastore, 1) := by decide +kernel
theorem dX9_readTerms_187 : decode cX9_readTerms 187 = .ok (.aload_n 0, 1) := by decide +kernel
theorem dX9_readTerms_188 : decode cX9_readTerms 188 = .ok (.getfield 94, 3) := by decide +kernel
theorem dX9_readTerms_191 : decode cX9_readTerms 191 = .ok (.iload_n 1, 1) := by decide +kernel
theorem dX9_readTerms_192 : decode cX9_readTerms 192 = .ok (.bipush 6, 2) := by decide +kernel
theorem dX9_readTerms_194 : decode cX9_readTerms 194 = .ok (.iadd, 1) := by decide +kernel
theorem dX9_readTerms_195 : decode cX9_readTerms 195 = .ok (.dup2, 1) := by decide +kernel
theorem dX9_readTerms_196 : decode cX9_readTerms 196 = .ok (.iaload, 1) := by decide +kernel
theorem dX9_readTerms_197 : decode cX9_readTerms 197 = .ok (.iconst 1, 1) := by decide +kernel
theorem dX9_readTerms_198 : decode cX9_readTerms 198 = .ok (.iadd, 1) := by decide +kernel
theorem dX9_readTerms_199 : decode cX9_readTerms 199 = .ok (.iastore, 1) := by decide +kernel
theorem dX9_readTerms_200 : decode cX9_readTerms 200 = .ok (.iload_n 2, 1) := by decide +kernel
theorem dX9_readTerms_201 : decode cX9_readTerms 201 = .ok (.iload 5, 2) := by decide +kernel
theorem dX9_readTerms_203 : decode cX9_readTerms 203 = .ok (.iadd, 1) := by decide +kernel
theorem dX9_readTerms_204 : decode cX9_readTerms 204 = .ok (.istore_n 2, 1) := by decide +kernel
theorem dX9_readTerms_205 : decode cX9_readTerms 205 = .ok (.aload_n 0, 1) := by decide +kernel
theorem dX9_readTerms_206 : decode cX9_readTerms 206 = .ok (.invokevirtual 111, 3) := by decide +kernel
theorem dX9_readTerms_209 : decode cX9_readTerms 209 = .ok (.goto (-200), 3) := by decide +kernel
theorem dX9_readTerms_212 : decode cX9_readTerms 212 = .ok (.aload_n 0, 1) := by decide +kernel
theorem dX9_readTerms_213 : decode cX9_readTerms 213 = .ok (.iconst 3, 1) := by decide +kernel
theorem dX9_readTerms_214 : decode cX9_readTerms 214 = .ok (.invokevirtual 114, 3) := by decide +kernel
theorem dX9_readTerms_217 : decode cX9_readTerms 217 = .ok (.ifCond .ne 9, 3) := by decide +kernel
theorem dX9_readTerms_220 : decode cX9_readTerms 220 = .ok (.aload_n 0, 1) := by decide +kernel
theorem dX9_readTerms_221 : decode cX9_readTerms 221 = .ok (.iconst 1, 1) := by decide +kernel
theorem dX9_readTerms_222 : decode cX9_readTerms 222 = .ok (.invokevirtual 104, 3) := by decide +kernel
theorem dX9_readTerms_225 : decode cX9_readTerms 225 = .ok (.ireturn, 1) := by decide +kernel
theorem dX9_readTerms_226 : decode cX9_readTerms 226 = .ok (.iload_n 2, 1) := by decide +kernel
theorem dX9_readTerms_227 : decode cX9_readTerms 227 = .ok (.sipush 1000, 3) := by decide +kernel
theorem dX9_readTerms_230 : decode cX9_readTerms 230 = .ok (.if_icmp .eq 9, 3) := by decide +kernel
theorem dX9_readTerms_233 : decode cX9_readTerms 233 = .ok (.aload_n 0, 1) := by decide +kernel
theorem dX9_readTerms_234 : decode cX9_readTerms 234 = .ok (.iconst 5, 1) := by decide +kernel
theorem dX9_readTerms_235 : decode cX9_readTerms 235 = .ok (.invokevirtual 104, 3) := by decide +kernel
theorem dX9_readTerms_238 : decode cX9_readTerms 238 = .ok (.ireturn, 1) := by decide +kernel
theorem dX9_readTerms_239 : decode cX9_readTerms 239 = .ok (.aload_n 0, 1) := by decide +kernel
theorem dX9_readTerms_240 : decode cX9_readTerms 240 = .ok (.invokevirtual 111, 3) := by decide +kernel
theorem dX9_readTerms_243 : decode cX9_readTerms 243 = .ok (.iconst 1, 1) := by decide +kernel
theorem dX9_readTerms_244 : decode cX9_readTerms 244 = .ok (.ireturn, 1) := by decide +kernel
theorem dX9_readBase_0 : decode cX9_readBase 0 = .ok (.aload_n 0, 1) := by decide +kernel
theorem dX9_readBase_1 : decode cX9_readBase 1 = .ok (.getfield 27, 3) := by decide +kernel
theorem dX9_readBase_4 : decode cX9_readBase 4 = .ok (.iconst 3, 1) := by decide +kernel
theorem dX9_readBase_5 : decode cX9_readBase 5 = .ok (.if_icmp .ne 76, 3) := by decide +kernel
theorem dX9_readBase_8 : decode cX9_readBase 8 = .ok (.aload_n 0, 1) := by decide +kernel
theorem dX9_readBase_9 : decode cX9_readBase 9 = .ok (.getfield 44, 3) := by decide +kernel
theorem dX9_readBase_12 : decode cX9_readBase 12 = .ok (.aload_n 0, 1) := by decide +kernel
theorem dX9_readBase_13 : decode cX9_readBase 13 = .ok (.getfield 94, 3) := by decide +kernel
theorem dX9_readBase_16 : decode cX9_readBase 16 = .ok (.iconst 0, 1) := by decide +kernel
theorem dX9_readBase_17 : decode cX9_readBase 17 = .ok (.iaload, 1) := by decide +kernel
theorem dX9_readBase_18 : decode cX9_readBase 18 = .ok (.if_icmp .gt 63, 3) := by decide +kernel
theorem dX9_readBase_21 : decode cX9_readBase 21 = .ok (.iconst 0, 1) := by decide +kernel
theorem dX9_readBase_22 : decode cX9_readBase 22 = .ok (.istore_n 2, 1) := by decide +kernel
theorem dX9_readBase_23 : decode cX9_readBase 23 = .ok (.iload_n 2, 1) := by decide +kernel
theorem dX9_readBase_24 : decode cX9_readBase 24 = .ok (.aload_n 0, 1) := by decide +kernel
theorem dX9_readBase_25 : decode cX9_readBase 25 = .ok (.getfield 94, 3) := by decide +kernel
theorem dX9_readBase_28 : decode cX9_readBase 28 = .ok (.iload_n 1, 1) := by decide +kernel
theorem dX9_readBase_29 : decode cX9_readBase 29 = .ok (.bipush 6, 2) := by decide +kernel
theorem dX9_readBase_31 : decode cX9_readBase 31 = .ok (.iadd, 1) := by decide +kernel
theorem dX9_readBase_32 : decode cX9_readBase 32 = .ok (.iaload, 1) := by decide +kernel
theorem dX9_readBase_33 : decode cX9_readBase 33 = .ok (.if_icmp .ge 48, 3) := by decide +kernel
theorem dX9_readBase_36 : decode cX9_readBase 36 = .ok (.aload_n 0, 1) := by decide +kernel
theorem dX9_readBase_37 : decode cX9_readBase 37 = .ok (.getfield 94, 3) := by decide +kernel
theorem dX9_readBase_40 : decode cX9_readBase 40 = .ok (.sipush 218, 3) := by decide +kernel
theorem dX9_readBase_43 : decode cX9_readBase 43 = .ok (.bipush 36, 2) := by decide +kernel
theorem dX9_readBase_45 : decode cX9_readBase 45 = .ok (.aload_n 0, 1) := by decide +kernel
theorem dX9_readBase_46 : decode cX9_readBase 46 = .ok (.getfield 94, 3) := by decide +kernel
theorem dX9_readBase_49 : decode cX9_readBase 49 = .ok (.iload_n 1, 1) := by decide +kernel
theorem dX9_readBase_50 : decode cX9_readBase 50 = .ok (.bipush 8, 2) := by decide +kernel
theorem dX9_readBase_52 : decode cX9_readBase 52 = .ok (.iadd, 1) := by decide +kernel
theorem dX9_readBase_53 : decode cX9_readBase 53 = .ok (.iconst 2, 1) := by decide +kernel
theorem dX9_readBase_54 : decode cX9_readBase 54 = .ok (.iload_n 2, 1) := by decide +kernel
theorem dX9_readBase_55 : decode cX9_readBase 55 = .ok (.imul, 1) := by decide +kernel
theorem dX9_readBase_56 : decode cX9_readBase 56 = .ok (.iadd, 1) := by decide +kernel
theorem dX9_readBase_57 : decode cX9_readBase 57 = .ok (.iaload, 1) := by decide +kernel
theorem dX9_readBase_58 : decode cX9_readBase 58 = .ok (.imul, 1) := by decide +kernel
theorem dX9_readBase_59 : decode cX9_readBase 59 = .ok (.iadd, 1) := by decide +kernel
theorem dX9_readBase_60 : decode cX9_readBase 60 = .ok (.aload_n 0, 1) := by decide +kernel
theorem dX9_readBase_61 : decode cX9_readBase 61 = .ok (.getfield 44, 3) := by decide +kernel
theorem dX9_readBase_64 : decode cX9_readBase 64 = .ok (.iadd, 1) := by decide +kernel
theorem dX9_readBase_65 : decode cX9_readBase 65 = .ok (.iaload, 1) := by decide +kernel
theorem dX9_readBase_66 : decode cX9_readBase 66 = .ok (.ifCond .ne 9, 3) := by decide +kernel
theorem dX9_readBase_69 : decode cX9_readBase 69 = .ok (.aload_n 0, 1) := by decide +kernel
theorem dX9_readBase_70 : decode cX9_readBase 70 = .ok (.iconst 5, 1) := by decide +kernel
theorem dX9_readBase_71 : decode cX9_readBase 71 = .ok (.invokevirtual 104, 3) := by decide +kernel
theorem dX9_readBase_74 : decode cX9_readBase 74 = .ok (.ireturn, 1) := by decide +kernel
theorem dX9_readBase_75 : decode cX9_readBase 75 = .ok (.iinc 2 1, 3) := by decide +kernel
theorem dX9_readBase_78 : decode cX9_readBase 78 = .ok (.goto (-55), 3) := by decide +kernel
theorem dX9_readBase_81 : decode cX9_readBase 81 = .ok (.aload_n 0, 1) := by decide +kernel
theorem dX9_readBase_82 : decode cX9_readBase 82 = .ok (.iload_n 1, 1) := by decide +kernel
theorem dX9_readBase_83 : decode cX9_readBase 83 = .ok (.iconst 2, 1) := by decide +kernel
theorem dX9_readBase_84 : decode cX9_readBase 84 = .ok (.iadd, 1) := by decide +kernel
theorem dX9_readBase_85 : decode cX9_readBase 85 = .ok (.iconst 0, 1) := by decide +kernel
theorem dX9_readBase_86 : decode cX9_readBase 86 = .ok (.aload_n 0, 1) := by decide +kernel
theorem dX9_readBase_87 : decode cX9_readBase 87 = .ok (.getfield 94, 3) := by decide +kernel
theorem dX9_readBase_90 : decode cX9_readBase 90 = .ok (.iconst 0, 1) := by decide +kernel
theorem dX9_readBase_91 : decode cX9_readBase 91 = .ok (.iaload, 1) := by decide +kernel
theorem dX9_readBase_92 : decode cX9_readBase 92 = .ok (.invokevirtual 125, 3) := by decide +kernel
theorem dX9_readBase_95 : decode cX9_readBase 95 = .ok (.ireturn, 1) := by decide +kernel
theorem dX9_readContract_0 : decode cX9_readContract 0 = .ok (.aload_n 0, 1) := by decide +kernel
theorem dX9_readContract_1 : decode cX9_readContract 1 = .ok (.getfield 94, 3) := by decide +kernel
theorem dX9_readContract_4 : decode cX9_readContract 4 = .ok (.sipush 494, 3) := by decide +kernel
theorem dX9_readContract_7 : decode cX9_readContract 7 = .ok (.iaload, 1) := by decide +kernel
theorem dX9_readContract_8 : decode cX9_readContract 8 = .ok (.bipush 6, 2) := by decide +kernel
theorem dX9_readContract_10 : decode cX9_readContract 10 = .ok (.if_icmp .ne 9, 3) := by decide +kernel
theorem dX9_readContract_13 : decode cX9_readContract 13 = .ok (.aload_n 0, 1) := by decide +kernel
theorem dX9_readContract_14 : decode cX9_readContract 14 = .ok (.iconst 4, 1) := by decide +kernel
theorem dX9_readContract_15 : decode cX9_readContract 15 = .ok (.invokevirtual 104, 3) := by decide +kernel
theorem dX9_readContract_18 : decode cX9_readContract 18 = .ok (.ireturn, 1) := by decide +kernel
theorem dX9_readContract_19 : decode cX9_readContract 19 = .ok (.aload_n 0, 1) := by decide +kernel
theorem dX9_readContract_20 : decode cX9_readContract 20 = .ok (.invokevirtual 111, 3) := by decide +kernel
theorem dX9_readContract_23 : decode cX9_readContract 23 = .ok (.sipush 495, 3) := by decide +kernel
theorem dX9_readContract_26 : decode cX9_readContract 26 = .ok (.bipush 19, 2) := by decide +kernel
theorem dX9_readContract_28 : decode cX9_readContract 28 = .ok (.aload_n 0, 1) := by decide +kernel
theorem dX9_readContract_29 : decode cX9_readContract 29 = .ok (.getfield 94, 3) := by decide +kernel
theorem dX9_readContract_32 : decode cX9_readContract 32 = .ok (.sipush 494, 3) := by decide +kernel
theorem dX9_readContract_35 : decode cX9_readContract 35 = .ok (.iaload, 1) := by decide +kernel
theorem dX9_readContract_36 : decode cX9_readContract 36 = .ok (.imul, 1) := by decide +kernel
theorem dX9_readContract_37 : decode cX9_readContract 37 = .ok (.iadd, 1) := by decide +kernel
theorem dX9_readContract_38 : decode cX9_readContract 38 = .ok (.istore_n 1, 1) := by decide +kernel
theorem dX9_readContract_39 : decode cX9_readContract 39 = .ok (.aload_n 0, 1) := by decide +kernel
theorem dX9_readContract_40 : decode cX9_readContract 40 = .ok (.iload_n 1, 1) := by decide +kernel
theorem dX9_readContract_41 : decode cX9_readContract 41 = .ok (.iconst 0, 1) := by decide +kernel
theorem dX9_readContract_42 : decode cX9_readContract 42 = .ok (.iadd, 1) := by decide +kernel
theorem dX9_readContract_43 : decode cX9_readContract 43 = .ok (.iconst 1, 1) := by decide +kernel
theorem dX9_readContract_44 : decode cX9_readContract 44 = .ok (.sipush 9999, 3) := by decide +kernel
theorem dX9_readContract_47 : decode cX9_readContract 47 = .ok (.invokevirtual 125, 3) := by decide +kernel
theorem dX9_readContract_50 : decode cX9_readContract 50 = .ok (.ifCond .ne 5, 3) := by decide +kernel
theorem dX9_readContract_53 : decode cX9_readContract 53 = .ok (.iconst 0, 1) := by decide +kernel
theorem dX9_readContract_54 : decode cX9_readContract 54 = .ok (.ireturn, 1) := by decide +kernel
theorem dX9_readContract_55 : decode cX9_readContract 55 = .ok (.aload_n 0, 1) := by decide +kernel
theorem dX9_readContract_56 : decode cX9_readContract 56 = .ok (.bipush 61, 2) := by decide +kernel
theorem dX9_readContract_58 : decode cX9_readContract 58 = .ok (.invokevirtual 128, 3) := by decide +kernel
theorem dX9_readContract_61 : decode cX9_readContract 61 = .ok (.ifCond .ne 9, 3) := by decide +kernel
theorem dX9_readContract_64 : decode cX9_readContract 64 = .ok (.aload_n 0, 1) := by decide +kernel
theorem dX9_readContract_65 : decode cX9_readContract 65 = .ok (.iconst 1, 1) := by decide +kernel
theorem dX9_readContract_66 : decode cX9_readContract 66 = .ok (.invokevirtual 104, 3) := by decide +kernel
theorem dX9_readContract_69 : decode cX9_readContract 69 = .ok (.ireturn, 1) := by decide +kernel
theorem dX9_readContract_70 : decode cX9_readContract 70 = .ok (.aload_n 0, 1) := by decide +kernel
theorem dX9_readContract_71 : decode cX9_readContract 71 = .ok (.invokevirtual 111, 3) := by decide +kernel
theorem dX9_readContract_74 : decode cX9_readContract 74 = .ok (.aload_n 0, 1) := by decide +kernel
theorem dX9_readContract_75 : decode cX9_readContract 75 = .ok (.iload_n 1, 1) := by decide +kernel
theorem dX9_readContract_76 : decode cX9_readContract 76 = .ok (.iconst 1, 1) := by decide +kernel
theorem dX9_readContract_77 : decode cX9_readContract 77 = .ok (.iadd, 1) := by decide +kernel
theorem dX9_readContract_78 : decode cX9_readContract 78 = .ok (.iconst 0, 1) := by decide +kernel
theorem dX9_readContract_79 : decode cX9_readContract 79 = .ok (.sipush 1000, 3) := by decide +kernel
theorem dX9_readContract_82 : decode cX9_readContract 82 = .ok (.invokevirtual 125, 3) := by decide +kernel
theorem dX9_readContract_85 : decode cX9_readContract 85 = .ok (.ifCond .eq 19, 3) := by decide +kernel
theorem dX9_readContract_88 : decode cX9_readContract 88 = .ok (.aload_n 0, 1) := by decide +kernel
theorem dX9_readContract_89 : decode cX9_readContract 89 = .ok (.iload_n 1, 1) := by decide +kernel
theorem dX9_readContract_90 : decode cX9_readContract 90 = .ok (.invokevirtual 131, 3) := by decide +kernel
theorem dX9_readContract_93 : decode cX9_readContract 93 = .ok (.ifCond .eq 11, 3) := by decide +kernel
theorem dX9_readContract_96 : decode cX9_readContract 96 = .ok (.aload_n 0, 1) := by decide +kernel
theorem dX9_readContract_97 : decode cX9_readContract 97 = .ok (.iload_n 1, 1) := by decide +kernel
theorem dX9_readContract_98 : decode cX9_readContract 98 = .ok (.invokevirtual 134, 3) := by decide +kernel
theorem dX9_readContract_101 : decode cX9_readContract 101 = .ok (.ifCond .ne 5, 3) := by decide +kernel
theorem dX9_readContract_104 : decode cX9_readContract 104 = .ok (.iconst 0, 1) := by decide +kernel
theorem dX9_readContract_105 : decode cX9_readContract 105 = .ok (.ireturn, 1) := by decide +kernel
theorem dX9_readContract_106 : decode cX9_readContract 106 = .ok (.aload_n 0, 1) := by decide +kernel
theorem dX9_readContract_107 : decode cX9_readContract 107 = .ok (.iconst 5, 1) := by decide +kernel
theorem dX9_readContract_108 : decode cX9_readContract 108 = .ok (.invokevirtual 114, 3) := by decide +kernel
theorem dX9_readContract_111 : decode cX9_readContract 111 = .ok (.istore_n 2, 1) := by decide +kernel
theorem dX9_readContract_112 : decode cX9_readContract 112 = .ok (.iload_n 2, 1) := by decide +kernel
theorem dX9_readContract_113 : decode cX9_readContract 113 = .ok (.ifCond .ne 17, 3) := by decide +kernel
theorem dX9_readContract_116 : decode cX9_readContract 116 = .ok (.aload_n 0, 1) := by decide +kernel
theorem dX9_readContract_117 : decode cX9_readContract 117 = .ok (.iconst 4, 1) := by decide +kernel
theorem dX9_readContract_118 : decode cX9_readContract 118 = .ok (.invokevirtual 114, 3) := by decide +kernel
theorem dX9_readContract_121 : decode cX9_readContract 121 = .ok (.ifCond .ne 9, 3) := by decide +kernel
theorem dX9_readContract_124 : decode cX9_readContract 124 = .ok (.aload_n 0, 1) := by decide +kernel
theorem dX9_readContract_125 : decode cX9_readContract 125 = .ok (.iconst 1, 1) := by decide +kernel
theorem dX9_readContract_126 : decode cX9_readContract 126 = .ok (.invokevirtual 104, 3) := by decide +kernel
theorem dX9_readContract_129 : decode cX9_readContract 129 = .ok (.ireturn, 1) := by decide +kernel
theorem dX9_readContract_130 : decode cX9_readContract 130 = .ok (.aload_n 0, 1) := by decide +kernel
theorem dX9_readContract_131 : decode cX9_readContract 131 = .ok (.getfield 94, 3) := by decide +kernel
theorem dX9_readContract_134 : decode cX9_readContract 134 = .ok (.iload_n 1, 1) := by decide +kernel
theorem dX9_readContract_135 : decode cX9_readContract 135 = .ok (.iconst 5, 1) := by decide +kernel
theorem dX9_readContract_136 : decode cX9_readContract 136 = .ok (.iadd, 1) := by decide +kernel
theorem dX9_readContract_137 : decode cX9_readContract 137 = .ok (.iload_n 2, 1) := by decide +kernel
theorem dX9_readContract_138 : decode cX9_readContract 138 = .ok (.ifCond .eq 7, 3) := by decide +kernel
theorem dX9_readContract_141 : decode cX9_readContract 141 = .ok (.iconst 1, 1) := by decide +kernel
theorem dX9_readContract_142 : decode cX9_readContract 142 = .ok (.goto 4, 3) := by decide +kernel
theorem dX9_readContract_145 : decode cX9_readContract 145 = .ok (.iconst 0, 1) := by decide +kernel
theorem dX9_readContract_146 : decode cX9_readContract 146 = .ok (.iastore, 1) := by decide +kernel
theorem dX9_readContract_147 : decode cX9_readContract 147 = .ok (.aload_n 0, 1) := by decide +kernel
theorem dX9_readContract_148 : decode cX9_readContract 148 = .ok (.invokevirtual 111, 3) := by decide +kernel
theorem dX9_readContract_151 : decode cX9_readContract 151 = .ok (.aload_n 0, 1) := by decide +kernel
theorem dX9_readContract_152 : decode cX9_readContract 152 = .ok (.iload_n 1, 1) := by decide +kernel
theorem dX9_readContract_153 : decode cX9_readContract 153 = .ok (.iconst 3, 1) := by decide +kernel
theorem dX9_readContract_154 : decode cX9_readContract 154 = .ok (.iadd, 1) := by decide +kernel
theorem dX9_readContract_155 : decode cX9_readContract 155 = .ok (.iconst 0, 1) := by decide +kernel
theorem dX9_readContract_156 : decode cX9_readContract 156 = .ok (.sipush 999, 3) := by decide +kernel
theorem dX9_readContract_159 : decode cX9_readContract 159 = .ok (.invokevirtual 125, 3) := by decide +kernel
theorem dX9_readContract_162 : decode cX9_readContract 162 = .ok (.ifCond .eq 25, 3) := by decide +kernel
theorem dX9_readContract_165 : decode cX9_readContract 165 = .ok (.aload_n 0, 1) := by decide +kernel
theorem dX9_readContract_166 : decode cX9_readContract 166 = .ok (.bipush 6, 2) := by decide +kernel
theorem dX9_readContract_168 : decode cX9_readContract 168 = .ok (.invokevirtual 137, 3) := by decide +kernel
theorem dX9_readContract_171 : decode cX9_readContract 171 = .ok (.ifCond .eq 16, 3) := by decide +kernel
theorem dX9_readContract_174 : decode cX9_readContract 174 = .ok (.aload_n 0, 1) := by decide +kernel
theorem dX9_readContract_175 : decode cX9_readContract 175 = .ok (.iload_n 1, 1) := by decide +kernel
theorem dX9_readContract_176 : decode cX9_readContract 176 = .ok (.iconst 4, 1) := by decide +kernel
theorem dX9_readContract_177 : decode cX9_readContract 177 = .ok (.iadd, 1) := by decide +kernel
theorem dX9_readContract_178 : decode cX9_readContract 178 = .ok (.iconst 0, 1) := by decide +kernel
theorem dX9_readContract_179 : decode cX9_readContract 179 = .ok (.bipush 100, 2) := by decide +kernel
theorem dX9_readContract_181 : decode cX9_readContract 181 = .ok (.invokevirtual 125, 3) := by decide +kernel
theorem dX9_readContract_184 : decode cX9_readContract 184 = .ok (.ifCond .ne 5, 3) := by decide +kernel
theorem dX9_readContract_187 : decode cX9_readContract 187 = .ok (.iconst 0, 1) := by decide +kernel
theorem dX9_readContract_188 : decode cX9_readContract 188 = .ok (.ireturn, 1) := by decide +kernel
theorem dX9_readContract_189 : decode cX9_readContract 189 = .ok (.aload_n 0, 1) := by decide +kernel
theorem dX9_readContract_190 : decode cX9_readContract 190 = .ok (.getfield 94, 3) := by decide +kernel
theorem dX9_readContract_193 : decode cX9_readContract 193 = .ok (.sipush 494, 3) := by decide +kernel
theorem dX9_readContract_196 : decode cX9_readContract 196 = .ok (.dup2, 1) := by decide +kernel
theorem dX9_readContract_197 : decode cX9_readContract 197 = .ok (.iaload, 1) := by decide +kernel
theorem dX9_readContract_198 : decode cX9_readContract 198 = .ok (.iconst 1, 1) := by decide +kernel
theorem dX9_readContract_199 : decode cX9_readContract 199 = .ok (.iadd, 1) := by decide +kernel
theorem dX9_readContract_200 : decode cX9_readContract 200 = .ok (.iastore, 1) := by decide +kernel
theorem dX9_readContract_201 : decode cX9_readContract 201 = .ok (.iconst 1, 1) := by decide +kernel
theorem dX9_readContract_202 : decode cX9_readContract 202 = .ok (.ireturn, 1) := by decide +kernel
theorem dX9_readLine_0 : decode cX9_readLine 0 = .ok (.iload_n 1, 1) := by decide +kernel
theorem dX9_readLine_1 : decode cX9_readLine 1 = .ok (.ifCond .eq 30, 3) := by decide +kernel
theorem dX9_readLine_4 : decode cX9_readLine 4 = .ok (.aload_n 0, 1) := by decide +kernel
theorem dX9_readLine_5 : decode cX9_readLine 5 = .ok (.iconst 0, 1) := by decide +kernel
theorem dX9_readLine_6 : decode cX9_readLine 6 = .ok (.invokevirtual 114, 3) := by decide +kernel
theorem dX9_readLine_9 : decode cX9_readLine 9 = .ok (.ifCond .ne 9, 3) := by decide +kernel
theorem dX9_readLine_12 : decode cX9_readLine 12 = .ok (.aload_n 0, 1) := by decide +kernel
theorem dX9_readLine_13 : decode cX9_readLine 13 = .ok (.iconst 1, 1) := by decide +kernel
theorem dX9_readLine_14 : decode cX9_readLine 14 = .ok (.invokevirtual 104, 3) := by decide +kernel
theorem dX9_readLine_17 : decode cX9_readLine 17 = .ok (.ireturn, 1) := by decide +kernel
theorem dX9_readLine_18 : decode cX9_readLine 18 = .ok (.aload_n 0, 1) := by decide +kernel
theorem dX9_readLine_19 : decode cX9_readLine 19 = .ok (.invokevirtual 111, 3) := by decide +kernel
theorem dX9_readLine_22 : decode cX9_readLine 22 = .ok (.aload_n 0, 1) := by decide +kernel
theorem dX9_readLine_23 : decode cX9_readLine 23 = .ok (.iconst 0, 1) := by decide +kernel
theorem dX9_readLine_24 : decode cX9_readLine 24 = .ok (.iconst 0, 1) := by decide +kernel
theorem dX9_readLine_25 : decode cX9_readLine 25 = .ok (.bipush 35, 2) := by decide +kernel
theorem dX9_readLine_27 : decode cX9_readLine 27 = .ok (.invokevirtual 125, 3) := by decide +kernel
theorem dX9_readLine_30 : decode cX9_readLine 30 = .ok (.ireturn, 1) := by decide +kernel
theorem dX9_readLine_31 : decode cX9_readLine 31 = .ok (.aload_n 0, 1) := by decide +kernel
theorem dX9_readLine_32 : decode cX9_readLine 32 = .ok (.iconst 1, 1) := by decide +kernel
theorem dX9_readLine_33 : decode cX9_readLine 33 = .ok (.invokevirtual 114, 3) := by decide +kernel
theorem dX9_readLine_36 : decode cX9_readLine 36 = .ok (.ifCond .eq 8, 3) := by decide +kernel
theorem dX9_readLine_39 : decode cX9_readLine 39 = .ok (.aload_n 0, 1) := by decide +kernel
theorem dX9_readLine_40 : decode cX9_readLine 40 = .ok (.invokevirtual 140, 3) := by decide +kernel
theorem dX9_readLine_43 : decode cX9_readLine 43 = .ok (.ireturn, 1) := by decide +kernel
theorem dX9_readLine_44 : decode cX9_readLine 44 = .ok (.aload_n 0, 1) := by decide +kernel
theorem dX9_readLine_45 : decode cX9_readLine 45 = .ok (.iconst 2, 1) := by decide +kernel
theorem dX9_readLine_46 : decode cX9_readLine 46 = .ok (.invokevirtual 114, 3) := by decide +kernel
theorem dX9_readLine_49 : decode cX9_readLine 49 = .ok (.ifCond .eq 10, 3) := by decide +kernel
theorem dX9_readLine_52 : decode cX9_readLine 52 = .ok (.aload_n 0, 1) := by decide +kernel
theorem dX9_readLine_53 : decode cX9_readLine 53 = .ok (.invokevirtual 143, 3) := by decide +kernel
theorem dX9_readLine_56 : decode cX9_readLine 56 = .ok (.goto 8, 3) := by decide +kernel
theorem dX9_readLine_59 : decode cX9_readLine 59 = .ok (.aload_n 0, 1) := by decide +kernel
theorem dX9_readLine_60 : decode cX9_readLine 60 = .ok (.iconst 1, 1) := by decide +kernel
theorem dX9_readLine_61 : decode cX9_readLine 61 = .ok (.invokevirtual 104, 3) := by decide +kernel
theorem dX9_readLine_64 : decode cX9_readLine 64 = .ok (.ireturn, 1) := by decide +kernel
theorem dX9_readEnd_0 : decode cX9_readEnd 0 = .ok (.aload_n 0, 1) := by decide +kernel
theorem dX9_readEnd_1 : decode cX9_readEnd 1 = .ok (.bipush 59, 2) := by decide +kernel
theorem dX9_readEnd_3 : decode cX9_readEnd 3 = .ok (.invokevirtual 128, 3) := by decide +kernel
theorem dX9_readEnd_6 : decode cX9_readEnd 6 = .ok (.ifCond .ne 9, 3) := by decide +kernel
theorem dX9_readEnd_9 : decode cX9_readEnd 9 = .ok (.aload_n 0, 1) := by decide +kernel
theorem dX9_readEnd_10 : decode cX9_readEnd 10 = .ok (.iconst 1, 1) := by decide +kernel
theorem dX9_readEnd_11 : decode cX9_readEnd 11 = .ok (.invokevirtual 104, 3) := by decide +kernel
theorem dX9_readEnd_14 : decode cX9_readEnd 14 = .ok (.ireturn, 1) := by decide +kernel
theorem dX9_readEnd_15 : decode cX9_readEnd 15 = .ok (.aload_n 0, 1) := by decide +kernel
theorem dX9_readEnd_16 : decode cX9_readEnd 16 = .ok (.invokevirtual 111, 3) := by decide +kernel
theorem dX9_readEnd_19 : decode cX9_readEnd 19 = .ok (.iconst 1, 1) := by decide +kernel
theorem dX9_readEnd_20 : decode cX9_readEnd 20 = .ok (.ireturn, 1) := by decide +kernel
theorem dX9_text_0 : decode cX9_text 0 = .ok (.aload_n 0, 1) := by decide +kernel
theorem dX9_text_1 : decode cX9_text 1 = .ok (.iconst 0, 1) := by decide +kernel
theorem dX9_text_2 : decode cX9_text 2 = .ok (.putfield 1, 3) := by decide +kernel
theorem dX9_text_5 : decode cX9_text 5 = .ok (.aload_n 0, 1) := by decide +kernel
theorem dX9_text_6 : decode cX9_text 6 = .ok (.aload_n 0, 1) := by decide +kernel
theorem dX9_text_7 : decode cX9_text 7 = .ok (.getfield 11, 3) := by decide +kernel
theorem dX9_text_10 : decode cX9_text 10 = .ok (.putfield 18, 3) := by decide +kernel
theorem dX9_text_13 : decode cX9_text 13 = .ok (.aload_n 0, 1) := by decide +kernel
theorem dX9_text_14 : decode cX9_text 14 = .ok (.iconst 0, 1) := by decide +kernel
theorem dX9_text_15 : decode cX9_text 15 = .ok (.putfield 11, 3) := by decide +kernel
theorem dX9_text_18 : decode cX9_text 18 = .ok (.aload_n 0, 1) := by decide +kernel
theorem dX9_text_19 : decode cX9_text 19 = .ok (.iconst 0, 1) := by decide +kernel
theorem dX9_text_20 : decode cX9_text 20 = .ok (.putfield 79, 3) := by decide +kernel
theorem dX9_text_23 : decode cX9_text 23 = .ok (.aload_n 0, 1) := by decide +kernel
theorem dX9_text_24 : decode cX9_text 24 = .ok (.iconst 0, 1) := by decide +kernel
theorem dX9_text_25 : decode cX9_text 25 = .ok (.putfield 21, 3) := by decide +kernel
theorem dX9_text_28 : decode cX9_text 28 = .ok (.iconst 0, 1) := by decide +kernel
theorem dX9_text_29 : decode cX9_text 29 = .ok (.istore_n 1, 1) := by decide +kernel
theorem dX9_text_30 : decode cX9_text 30 = .ok (.iconst 0, 1) := by decide +kernel
theorem dX9_text_31 : decode cX9_text 31 = .ok (.istore_n 2, 1) := by decide +kernel
theorem dX9_text_32 : decode cX9_text 32 = .ok (.iload_n 2, 1) := by decide +kernel
theorem dX9_text_33 : decode cX9_text 33 = .ok (.sipush 880, 3) := by decide +kernel
theorem dX9_text_36 : decode cX9_text 36 = .ok (.if_icmp .ge 16, 3) := by decide +kernel
theorem dX9_text_39 : decode cX9_text 39 = .ok (.aload_n 0, 1) := by decide +kernel
theorem dX9_text_40 : decode cX9_text 40 = .ok (.getfield 94, 3) := by decide +kernel
theorem dX9_text_43 : decode cX9_text 43 = .ok (.iload_n 2, 1) := by decide +kernel
theorem dX9_text_44 : decode cX9_text 44 = .ok (.iconst 0, 1) := by decide +kernel
theorem dX9_text_45 : decode cX9_text 45 = .ok (.iastore, 1) := by decide +kernel
theorem dX9_text_46 : decode cX9_text 46 = .ok (.iinc 2 1, 3) := by decide +kernel
theorem dX9_text_49 : decode cX9_text 49 = .ok (.goto (-17), 3) := by decide +kernel
theorem dX9_text_52 : decode cX9_text 52 = .ok (.aload_n 0, 1) := by decide +kernel
theorem dX9_text_53 : decode cX9_text 53 = .ok (.invokevirtual 111, 3) := by decide +kernel
theorem dX9_text_56 : decode cX9_text 56 = .ok (.aload_n 0, 1) := by decide +kernel
theorem dX9_text_57 : decode cX9_text 57 = .ok (.getfield 27, 3) := by decide +kernel
theorem dX9_text_60 : decode cX9_text 60 = .ok (.ifCond .eq 39, 3) := by decide +kernel
theorem dX9_text_63 : decode cX9_text 63 = .ok (.aload_n 0, 1) := by decide +kernel
theorem dX9_text_64 : decode cX9_text 64 = .ok (.iload_n 1, 1) := by decide +kernel
theorem dX9_text_65 : decode cX9_text 65 = .ok (.ifCond .ne 7, 3) := by decide +kernel
theorem dX9_text_68 : decode cX9_text 68 = .ok (.iconst 1, 1) := by decide +kernel
theorem dX9_text_69 : decode cX9_text 69 = .ok (.goto 4, 3) := by decide +kernel
theorem dX9_text_72 : decode cX9_text 72 = .ok (.iconst 0, 1) := by decide +kernel
theorem dX9_text_73 : decode cX9_text 73 = .ok (.invokevirtual 146, 3) := by decide +kernel
theorem dX9_text_76 : decode cX9_text 76 = .ok (.ifCond .eq 10, 3) := by decide +kernel
theorem dX9_text_79 : decode cX9_text 79 = .ok (.aload_n 0, 1) := by decide +kernel
theorem dX9_text_80 : decode cX9_text 80 = .ok (.invokevirtual 150, 3) := by decide +kernel
theorem dX9_text_83 : decode cX9_text 83 = .ok (.ifCond .ne 10, 3) := by decide +kernel
theorem dX9_text_86 : decode cX9_text 86 = .ok (.iconst (-1), 1) := by decide +kernel
theorem dX9_text_87 : decode cX9_text 87 = .ok (.aload_n 0, 1) := by decide +kernel
theorem dX9_text_88 : decode cX9_text 88 = .ok (.getfield 82, 3) := by decide +kernel
theorem dX9_text_91 : decode cX9_text 91 = .ok (.isub, 1) := by decide +kernel
theorem dX9_text_92 : decode cX9_text 92 = .ok (.ireturn, 1) := by decide +kernel
theorem dX9_text_93 : decode cX9_text 93 = .ok (.iinc 1 1, 3) := by decide +kernel
theorem dX9_text_96 : decode cX9_text 96 = .ok (.goto (-40), 3) := by decide +kernel
theorem dX9_text_99 : decode cX9_text 99 = .ok (.iconst 0, 1) := by decide +kernel
theorem dX9_text_100 : decode cX9_text 100 = .ok (.istore_n 2, 1) := by decide +kernel
theorem dX9_text_101 : decode cX9_text 101 = .ok (.iload_n 2, 1) := by decide +kernel
theorem dX9_text_102 : decode cX9_text 102 = .ok (.sipush 880, 3) := by decide +kernel
theorem dX9_text_105 : decode cX9_text 105 = .ok (.if_icmp .ge 21, 3) := by decide +kernel
theorem dX9_text_108 : decode cX9_text 108 = .ok (.aload_n 0, 1) := by decide +kernel
theorem dX9_text_109 : decode cX9_text 109 = .ok (.getfield 91, 3) := by decide +kernel
theorem dX9_text_112 : decode cX9_text 112 = .ok (.iload_n 2, 1) := by decide +kernel
theorem dX9_text_113 : decode cX9_text 113 = .ok (.aload_n 0, 1) := by decide +kernel
theorem dX9_text_114 : decode cX9_text 114 = .ok (.getfield 94, 3) := by decide +kernel
theorem dX9_text_117 : decode cX9_text 117 = .ok (.iload_n 2, 1) := by decide +kernel
theorem dX9_text_118 : decode cX9_text 118 = .ok (.iaload, 1) := by decide +kernel
theorem dX9_text_119 : decode cX9_text 119 = .ok (.iastore, 1) := by decide +kernel
theorem dX9_text_120 : decode cX9_text 120 = .ok (.iinc 2 1, 3) := by decide +kernel
theorem dX9_text_123 : decode cX9_text 123 = .ok (.goto (-22), 3) := by decide +kernel
theorem dX9_text_126 : decode cX9_text 126 = .ok (.aload_n 0, 1) := by decide +kernel
theorem dX9_text_127 : decode cX9_text 127 = .ok (.iconst 0, 1) := by decide +kernel
theorem dX9_text_128 : decode cX9_text 128 = .ok (.putfield 153, 3) := by decide +kernel
theorem dX9_text_131 : decode cX9_text 131 = .ok (.iload_n 1, 1) := by decide +kernel
theorem dX9_text_132 : decode cX9_text 132 = .ok (.ireturn, 1) := by decide +kernel
theorem dX9_fault_0 : decode cX9_fault 0 = .ok (.aload_n 0, 1) := by decide +kernel
theorem dX9_fault_1 : decode cX9_fault 1 = .ok (.iconst 0, 1) := by decide +kernel
theorem dX9_fault_2 : decode cX9_fault 2 = .ok (.putfield 1, 3) := by decide +kernel
theorem dX9_fault_5 : decode cX9_fault 5 = .ok (.aload_n 0, 1) := by decide +kernel
theorem dX9_fault_6 : decode cX9_fault 6 = .ok (.getfield 79, 3) := by decide +kernel
theorem dX9_fault_9 : decode cX9_fault 9 = .ok (.ireturn, 1) := by decide +kernel
theorem dX9_month_0 : decode cX9_month 0 = .ok (.aload_n 0, 1) := by decide +kernel
theorem dX9_month_1 : decode cX9_month 1 = .ok (.getfield 91, 3) := by decide +kernel
theorem dX9_month_4 : decode cX9_month 4 = .ok (.iconst 0, 1) := by decide +kernel
theorem dX9_month_5 : decode cX9_month 5 = .ok (.iaload, 1) := by decide +kernel
theorem dX9_month_6 : decode cX9_month 6 = .ok (.ireturn, 1) := by decide +kernel
theorem dX9_isIndex_0 : decode cX9_isIndex 0 = .ok (.iload_n 1, 1) := by decide +kernel
theorem dX9_isIndex_1 : decode cX9_isIndex 1 = .ok (.iconst 0, 1) := by decide +kernel
theorem dX9_isIndex_2 : decode cX9_isIndex 2 = .ok (.aload_n 0, 1) := by decide +kernel
theorem dX9_isIndex_3 : decode cX9_isIndex 3 = .ok (.getfield 91, 3) := by decide +kernel
theorem dX9_isIndex_6 : decode cX9_isIndex 6 = .ok (.iconst 1, 1) := by decide +kernel
theorem dX9_isIndex_7 : decode cX9_isIndex 7 = .ok (.iaload, 1) := by decide +kernel
theorem dX9_isIndex_8 : decode cX9_isIndex 8 = .ok (.iconst 1, 1) := by decide +kernel
theorem dX9_isIndex_9 : decode cX9_isIndex 9 = .ok (.isub, 1) := by decide +kernel
theorem dX9_isIndex_10 : decode cX9_isIndex 10 = .ok (.invokestatic 107, 3) := by decide +kernel
theorem dX9_isIndex_13 : decode cX9_isIndex 13 = .ok (.ireturn, 1) := by decide +kernel
theorem dX9_isContract_0 : decode cX9_isContract 0 = .ok (.iload_n 1, 1) := by decide +kernel
theorem dX9_isContract_1 : decode cX9_isContract 1 = .ok (.iconst 0, 1) := by decide +kernel
theorem dX9_isContract_2 : decode cX9_isContract 2 = .ok (.aload_n 0, 1) := by decide +kernel
theorem dX9_isContract_3 : decode cX9_isContract 3 = .ok (.getfield 91, 3) := by decide +kernel
theorem dX9_isContract_6 : decode cX9_isContract 6 = .ok (.sipush 494, 3) := by decide +kernel
theorem dX9_isContract_9 : decode cX9_isContract 9 = .ok (.iaload, 1) := by decide +kernel
theorem dX9_isContract_10 : decode cX9_isContract 10 = .ok (.iconst 1, 1) := by decide +kernel
theorem dX9_isContract_11 : decode cX9_isContract 11 = .ok (.isub, 1) := by decide +kernel
theorem dX9_isContract_12 : decode cX9_isContract 12 = .ok (.invokestatic 107, 3) := by decide +kernel
theorem dX9_isContract_15 : decode cX9_isContract 15 = .ok (.ireturn, 1) := by decide +kernel
theorem dX9_isDelivery_0 : decode cX9_isDelivery 0 = .ok (.iload_n 1, 1) := by decide +kernel
theorem dX9_isDelivery_1 : decode cX9_isDelivery 1 = .ok (.iconst 0, 1) := by decide +kernel
theorem dX9_isDelivery_2 : decode cX9_isDelivery 2 = .ok (.aload_n 0, 1) := by decide +kernel
theorem dX9_isDelivery_3 : decode cX9_isDelivery 3 = .ok (.getfield 91, 3) := by decide +kernel
theorem dX9_isDelivery_6 : decode cX9_isDelivery 6 = .ok (.sipush 609, 3) := by decide +kernel
theorem dX9_isDelivery_9 : decode cX9_isDelivery 9 = .ok (.iaload, 1) := by decide +kernel
theorem dX9_isDelivery_10 : decode cX9_isDelivery 10 = .ok (.iconst 1, 1) := by decide +kernel
theorem dX9_isDelivery_11 : decode cX9_isDelivery 11 = .ok (.isub, 1) := by decide +kernel
theorem dX9_isDelivery_12 : decode cX9_isDelivery 12 = .ok (.invokestatic 107, 3) := by decide +kernel
theorem dX9_isDelivery_15 : decode cX9_isDelivery 15 = .ok (.ireturn, 1) := by decide +kernel
theorem dX9_isMonth_0 : decode cX9_isMonth 0 = .ok (.iload_n 0, 1) := by decide +kernel
theorem dX9_isMonth_1 : decode cX9_isMonth 1 = .ok (.iconst 0, 1) := by decide +kernel
theorem dX9_isMonth_2 : decode cX9_isMonth 2 = .ok (.bipush 35, 2) := by decide +kernel
theorem dX9_isMonth_4 : decode cX9_isMonth 4 = .ok (.invokestatic 107, 3) := by decide +kernel
theorem dX9_isMonth_7 : decode cX9_isMonth 7 = .ok (.ireturn, 1) := by decide +kernel
theorem dX9_sureOf_0 : decode cX9_sureOf 0 = .ok (.aload_n 0, 1) := by decide +kernel
theorem dX9_sureOf_1 : decode cX9_sureOf 1 = .ok (.getfield 91, 3) := by decide +kernel
theorem dX9_sureOf_4 : decode cX9_sureOf 4 = .ok (.sipush 218, 3) := by decide +kernel
theorem dX9_sureOf_7 : decode cX9_sureOf 7 = .ok (.bipush 36, 2) := by decide +kernel
theorem dX9_sureOf_9 : decode cX9_sureOf 9 = .ok (.iload_n 1, 1) := by decide +kernel
theorem dX9_sureOf_10 : decode cX9_sureOf 10 = .ok (.imul, 1) := by decide +kernel
theorem dX9_sureOf_11 : decode cX9_sureOf 11 = .ok (.iadd, 1) := by decide +kernel
theorem dX9_sureOf_12 : decode cX9_sureOf 12 = .ok (.iload_n 2, 1) := by decide +kernel
theorem dX9_sureOf_13 : decode cX9_sureOf 13 = .ok (.iadd, 1) := by decide +kernel
theorem dX9_sureOf_14 : decode cX9_sureOf 14 = .ok (.iaload, 1) := by decide +kernel
theorem dX9_sureOf_15 : decode cX9_sureOf 15 = .ok (.ireturn, 1) := by decide +kernel
theorem dX9_valueOf_0 : decode cX9_valueOf 0 = .ok (.aload_n 0, 1) := by decide +kernel
theorem dX9_valueOf_1 : decode cX9_valueOf 1 = .ok (.getfield 91, 3) := by decide +kernel
theorem dX9_valueOf_4 : decode cX9_valueOf 4 = .ok (.iconst 2, 1) := by decide +kernel
theorem dX9_valueOf_5 : decode cX9_valueOf 5 = .ok (.bipush 36, 2) := by decide +kernel
theorem dX9_valueOf_7 : decode cX9_valueOf 7 = .ok (.iload_n 1, 1) := by decide +kernel
theorem dX9_valueOf_8 : decode cX9_valueOf 8 = .ok (.imul, 1) := by decide +kernel
theorem dX9_valueOf_9 : decode cX9_valueOf 9 = .ok (.iadd, 1) := by decide +kernel
theorem dX9_valueOf_10 : decode cX9_valueOf 10 = .ok (.iload_n 2, 1) := by decide +kernel
theorem dX9_valueOf_11 : decode cX9_valueOf 11 = .ok (.iadd, 1) := by decide +kernel
theorem dX9_valueOf_12 : decode cX9_valueOf 12 = .ok (.iaload, 1) := by decide +kernel
theorem dX9_valueOf_13 : decode cX9_valueOf 13 = .ok (.ireturn, 1) := by decide +kernel
theorem dX9_knownAt_0 : decode cX9_knownAt 0 = .ok (.iload_n 2, 1) := by decide +kernel
theorem dX9_knownAt_1 : decode cX9_knownAt 1 = .ok (.istore_n 3, 1) := by decide +kernel
theorem dX9_knownAt_2 : decode cX9_knownAt 2 = .ok (.iload_n 3, 1) := by decide +kernel
theorem dX9_knownAt_3 : decode cX9_knownAt 3 = .ok (.ifCond .lt 18, 3) := by decide +kernel
theorem dX9_knownAt_6 : decode cX9_knownAt 6 = .ok (.aload_n 0, 1) := by decide +kernel
theorem dX9_knownAt_7 : decode cX9_knownAt 7 = .ok (.iload_n 1, 1) := by decide +kernel
theorem dX9_knownAt_8 : decode cX9_knownAt 8 = .ok (.iload_n 3, 1) := by decide +kernel
theorem dX9_knownAt_9 : decode cX9_knownAt 9 = .ok (.invokevirtual 156, 3) := by decide +kernel
theorem dX9_knownAt_12 : decode cX9_knownAt 12 = .ok (.ifCond .ne 9, 3) := by decide +kernel
theorem dX9_knownAt_15 : decode cX9_knownAt 15 = .ok (.iinc 3 (-1), 3) := by decide +kernel
theorem dX9_knownAt_18 : decode cX9_knownAt 18 = .ok (.goto (-16), 3) := by decide +kernel
theorem dX9_knownAt_21 : decode cX9_knownAt 21 = .ok (.iload_n 3, 1) := by decide +kernel
theorem dX9_knownAt_22 : decode cX9_knownAt 22 = .ok (.ireturn, 1) := by decide +kernel
theorem dX9_settled_0 : decode cX9_settled 0 = .ok (.iconst 0, 1) := by decide +kernel
theorem dX9_settled_1 : decode cX9_settled 1 = .ok (.istore_n 1, 1) := by decide +kernel
theorem dX9_settled_2 : decode cX9_settled 2 = .ok (.iconst 0, 1) := by decide +kernel
theorem dX9_settled_3 : decode cX9_settled 3 = .ok (.istore_n 2, 1) := by decide +kernel
theorem dX9_settled_4 : decode cX9_settled 4 = .ok (.iload_n 2, 1) := by decide +kernel
theorem dX9_settled_5 : decode cX9_settled 5 = .ok (.aload_n 0, 1) := by decide +kernel
theorem dX9_settled_6 : decode cX9_settled 6 = .ok (.getfield 91, 3) := by decide +kernel
theorem dX9_settled_9 : decode cX9_settled 9 = .ok (.sipush 609, 3) := by decide +kernel
theorem dX9_settled_12 : decode cX9_settled 12 = .ok (.iaload, 1) := by decide +kernel
theorem dX9_settled_13 : decode cX9_settled 13 = .ok (.if_icmp .ge 19, 3) := by decide +kernel
theorem dX9_settled_16 : decode cX9_settled 16 = .ok (.iload_n 1, 1) := by decide +kernel
theorem dX9_settled_17 : decode cX9_settled 17 = .ok (.aload_n 0, 1) := by decide +kernel
theorem dX9_settled_18 : decode cX9_settled 18 = .ok (.iload_n 2, 1) := by decide +kernel
theorem dX9_settled_19 : decode cX9_settled 19 = .ok (.bipush 6, 2) := by decide +kernel
theorem dX9_settled_21 : decode cX9_settled 21 = .ok (.invokevirtual 160, 3) := by decide +kernel
theorem dX9_settled_24 : decode cX9_settled 24 = .ok (.iadd, 1) := by decide +kernel
theorem dX9_settled_25 : decode cX9_settled 25 = .ok (.istore_n 1, 1) := by decide +kernel
theorem dX9_settled_26 : decode cX9_settled 26 = .ok (.iinc 2 1, 3) := by decide +kernel
theorem dX9_settled_29 : decode cX9_settled 29 = .ok (.goto (-25), 3) := by decide +kernel
theorem dX9_settled_32 : decode cX9_settled 32 = .ok (.iload_n 1, 1) := by decide +kernel
theorem dX9_settled_33 : decode cX9_settled 33 = .ok (.ireturn, 1) := by decide +kernel
theorem dX9_now_0 : decode cX9_now 0 = .ok (.aload_n 0, 1) := by decide +kernel
theorem dX9_now_1 : decode cX9_now 1 = .ok (.iconst 0, 1) := by decide +kernel
theorem dX9_now_2 : decode cX9_now 2 = .ok (.putfield 1, 3) := by decide +kernel
theorem dX9_now_5 : decode cX9_now 5 = .ok (.iload_n 1, 1) := by decide +kernel
theorem dX9_now_6 : decode cX9_now 6 = .ok (.tableswitch 87 0 6 #[42, 47, 54, 63, 72, 77, 82], 42) := by decide +kernel
theorem dX9_now_48 : decode cX9_now 48 = .ok (.aload_n 0, 1) := by decide +kernel
theorem dX9_now_49 : decode cX9_now 49 = .ok (.invokevirtual 163, 3) := by decide +kernel
theorem dX9_now_52 : decode cX9_now 52 = .ok (.ireturn, 1) := by decide +kernel
theorem dX9_now_53 : decode cX9_now 53 = .ok (.aload_n 0, 1) := by decide +kernel
theorem dX9_now_54 : decode cX9_now 54 = .ok (.getfield 91, 3) := by decide +kernel
theorem dX9_now_57 : decode cX9_now 57 = .ok (.iconst 1, 1) := by decide +kernel
theorem dX9_now_58 : decode cX9_now 58 = .ok (.iaload, 1) := by decide +kernel
theorem dX9_now_59 : decode cX9_now 59 = .ok (.ireturn, 1) := by decide +kernel
theorem dX9_now_60 : decode cX9_now 60 = .ok (.aload_n 0, 1) := by decide +kernel
theorem dX9_now_61 : decode cX9_now 61 = .ok (.getfield 91, 3) := by decide +kernel
theorem dX9_now_64 : decode cX9_now 64 = .ok (.sipush 494, 3) := by decide +kernel
theorem dX9_now_67 : decode cX9_now 67 = .ok (.iaload, 1) := by decide +kernel
theorem dX9_now_68 : decode cX9_now 68 = .ok (.ireturn, 1) := by decide +kernel
theorem dX9_now_69 : decode cX9_now 69 = .ok (.aload_n 0, 1) := by decide +kernel
theorem dX9_now_70 : decode cX9_now 70 = .ok (.getfield 91, 3) := by decide +kernel
theorem dX9_now_73 : decode cX9_now 73 = .ok (.sipush 609, 3) := by decide +kernel
theorem dX9_now_76 : decode cX9_now 76 = .ok (.iaload, 1) := by decide +kernel
theorem dX9_now_77 : decode cX9_now 77 = .ok (.ireturn, 1) := by decide +kernel
theorem dX9_now_78 : decode cX9_now 78 = .ok (.aload_n 0, 1) := by decide +kernel
theorem dX9_now_79 : decode cX9_now 79 = .ok (.invokevirtual 166, 3) := by decide +kernel
theorem dX9_now_82 : decode cX9_now 82 = .ok (.ireturn, 1) := by decide +kernel
theorem dX9_now_83 : decode cX9_now 83 = .ok (.aload_n 0, 1) := by decide +kernel
theorem dX9_now_84 : decode cX9_now 84 = .ok (.getfield 153, 3) := by decide +kernel
theorem dX9_now_87 : decode cX9_now 87 = .ok (.ireturn, 1) := by decide +kernel
theorem dX9_now_88 : decode cX9_now 88 = .ok (.aload_n 0, 1) := by decide +kernel
theorem dX9_now_89 : decode cX9_now 89 = .ok (.getfield 11, 3) := by decide +kernel
theorem dX9_now_92 : decode cX9_now 92 = .ok (.ireturn, 1) := by decide +kernel
theorem dX9_now_93 : decode cX9_now 93 = .ok (.iconst (-1), 1) := by decide +kernel
theorem dX9_now_94 : decode cX9_now 94 = .ok (.ireturn, 1) := by decide +kernel
theorem dX9_value_0 : decode cX9_value 0 = .ok (.aload_n 0, 1) := by decide +kernel
theorem dX9_value_1 : decode cX9_value 1 = .ok (.iconst 0, 1) := by decide +kernel
theorem dX9_value_2 : decode cX9_value 2 = .ok (.putfield 1, 3) := by decide +kernel
theorem dX9_value_5 : decode cX9_value 5 = .ok (.aload_n 0, 1) := by decide +kernel
theorem dX9_value_6 : decode cX9_value 6 = .ok (.iload_n 1, 1) := by decide +kernel
theorem dX9_value_7 : decode cX9_value 7 = .ok (.invokevirtual 169, 3) := by decide +kernel
theorem dX9_value_10 : decode cX9_value 10 = .ok (.ifCond .eq 10, 3) := by decide +kernel
theorem dX9_value_13 : decode cX9_value 13 = .ok (.iload_n 2, 1) := by decide +kernel
theorem dX9_value_14 : decode cX9_value 14 = .ok (.invokestatic 172, 3) := by decide +kernel
theorem dX9_value_17 : decode cX9_value 17 = .ok (.ifCond .ne 5, 3) := by decide +kernel
theorem dX9_value_20 : decode cX9_value 20 = .ok (.iconst (-1), 1) := by decide +kernel
theorem dX9_value_21 : decode cX9_value 21 = .ok (.ireturn, 1) := by decide +kernel
theorem dX9_value_22 : decode cX9_value 22 = .ok (.aload_n 0, 1) := by decide +kernel
theorem dX9_value_23 : decode cX9_value 23 = .ok (.iload_n 1, 1) := by decide +kernel
theorem dX9_value_24 : decode cX9_value 24 = .ok (.iload_n 2, 1) := by decide +kernel
theorem dX9_value_25 : decode cX9_value 25 = .ok (.invokevirtual 175, 3) := by decide +kernel
theorem dX9_value_28 : decode cX9_value 28 = .ok (.istore 4, 2) := by decide +kernel
theorem dX9_value_30 : decode cX9_value 30 = .ok (.iload_n 3, 1) := by decide +kernel
theorem dX9_value_31 : decode cX9_value 31 = .ok (.tableswitch 77 0 3 #[29, 49, 56, 74], 29) := by decide +kernel
theorem dX9_value_60 : decode cX9_value 60 = .ok (.aload_n 0, 1) := by decide +kernel
theorem dX9_value_61 : decode cX9_value 61 = .ok (.iload_n 1, 1) := by decide +kernel
theorem dX9_value_62 : decode cX9_value 62 = .ok (.iload_n 2, 1) := by decide +kernel
theorem dX9_value_63 : decode cX9_value 63 = .ok (.invokevirtual 156, 3) := by decide +kernel
theorem dX9_value_66 : decode cX9_value 66 = .ok (.ifCond .ne 7, 3) := by decide +kernel
theorem dX9_value_69 : decode cX9_value 69 = .ok (.iconst (-1), 1) := by decide +kernel
theorem dX9_value_70 : decode cX9_value 70 = .ok (.goto 9, 3) := by decide +kernel
theorem dX9_value_73 : decode cX9_value 73 = .ok (.aload_n 0, 1) := by decide +kernel
theorem dX9_value_74 : decode cX9_value 74 = .ok (.iload_n 1, 1) := by decide +kernel
theorem dX9_value_75 : decode cX9_value 75 = .ok (.iload_n 2, 1) := by decide +kernel
theorem dX9_value_76 : decode cX9_value 76 = .ok (.invokevirtual 178, 3) := by decide +kernel
theorem dX9_value_79 : decode cX9_value 79 = .ok (.ireturn, 1) := by decide +kernel
theorem dX9_value_80 : decode cX9_value 80 = .ok (.aload_n 0, 1) := by decide +kernel
theorem dX9_value_81 : decode cX9_value 81 = .ok (.iload_n 1, 1) := by decide +kernel
theorem dX9_value_82 : decode cX9_value 82 = .ok (.iload_n 2, 1) := by decide +kernel
theorem dX9_value_83 : decode cX9_value 83 = .ok (.invokevirtual 156, 3) := by decide +kernel
theorem dX9_value_86 : decode cX9_value 86 = .ok (.ireturn, 1) := by decide +kernel
theorem dX9_value_87 : decode cX9_value 87 = .ok (.iload 4, 2) := by decide +kernel
theorem dX9_value_89 : decode cX9_value 89 = .ok (.iconst (-1), 1) := by decide +kernel
theorem dX9_value_90 : decode cX9_value 90 = .ok (.if_icmp .ne 7, 3) := by decide +kernel
theorem dX9_value_93 : decode cX9_value 93 = .ok (.iconst (-1), 1) := by decide +kernel
theorem dX9_value_94 : decode cX9_value 94 = .ok (.goto 10, 3) := by decide +kernel
theorem dX9_value_97 : decode cX9_value 97 = .ok (.aload_n 0, 1) := by decide +kernel
theorem dX9_value_98 : decode cX9_value 98 = .ok (.iload_n 1, 1) := by decide +kernel
theorem dX9_value_99 : decode cX9_value 99 = .ok (.iload 4, 2) := by decide +kernel
theorem dX9_value_101 : decode cX9_value 101 = .ok (.invokevirtual 178, 3) := by decide +kernel
theorem dX9_value_104 : decode cX9_value 104 = .ok (.ireturn, 1) := by decide +kernel
theorem dX9_value_105 : decode cX9_value 105 = .ok (.iload 4, 2) := by decide +kernel
theorem dX9_value_107 : decode cX9_value 107 = .ok (.ireturn, 1) := by decide +kernel
theorem dX9_value_108 : decode cX9_value 108 = .ok (.iconst (-1), 1) := by decide +kernel
theorem dX9_value_109 : decode cX9_value 109 = .ok (.ireturn, 1) := by decide +kernel
theorem dX9_baseOf_0 : decode cX9_baseOf 0 = .ok (.aload_n 0, 1) := by decide +kernel
theorem dX9_baseOf_1 : decode cX9_baseOf 1 = .ok (.getfield 91, 3) := by decide +kernel
theorem dX9_baseOf_4 : decode cX9_baseOf 4 = .ok (.sipush 434, 3) := by decide +kernel
theorem dX9_baseOf_7 : decode cX9_baseOf 7 = .ok (.bipush 10, 2) := by decide +kernel
theorem dX9_baseOf_9 : decode cX9_baseOf 9 = .ok (.iload_n 1, 1) := by decide +kernel
theorem dX9_baseOf_10 : decode cX9_baseOf 10 = .ok (.imul, 1) := by decide +kernel
theorem dX9_baseOf_11 : decode cX9_baseOf 11 = .ok (.iadd, 1) := by decide +kernel
theorem dX9_baseOf_12 : decode cX9_baseOf 12 = .ok (.iconst 1, 1) := by decide +kernel
theorem dX9_baseOf_13 : decode cX9_baseOf 13 = .ok (.iadd, 1) := by decide +kernel
theorem dX9_baseOf_14 : decode cX9_baseOf 14 = .ok (.iconst 3, 1) := by decide +kernel
theorem dX9_baseOf_15 : decode cX9_baseOf 15 = .ok (.iload_n 2, 1) := by decide +kernel
theorem dX9_baseOf_16 : decode cX9_baseOf 16 = .ok (.imul, 1) := by decide +kernel
theorem dX9_baseOf_17 : decode cX9_baseOf 17 = .ok (.iadd, 1) := by decide +kernel
theorem dX9_baseOf_18 : decode cX9_baseOf 18 = .ok (.iload_n 3, 1) := by decide +kernel
theorem dX9_baseOf_19 : decode cX9_baseOf 19 = .ok (.iadd, 1) := by decide +kernel
theorem dX9_baseOf_20 : decode cX9_baseOf 20 = .ok (.iaload, 1) := by decide +kernel
theorem dX9_baseOf_21 : decode cX9_baseOf 21 = .ok (.ireturn, 1) := by decide +kernel
theorem dX9_rebased_0 : decode cX9_rebased 0 = .ok (.aload_n 0, 1) := by decide +kernel
theorem dX9_rebased_1 : decode cX9_rebased 1 = .ok (.iconst 0, 1) := by decide +kernel
theorem dX9_rebased_2 : decode cX9_rebased 2 = .ok (.putfield 1, 3) := by decide +kernel
theorem dX9_rebased_5 : decode cX9_rebased 5 = .ok (.aload_n 0, 1) := by decide +kernel
theorem dX9_rebased_6 : decode cX9_rebased 6 = .ok (.iload_n 1, 1) := by decide +kernel
theorem dX9_rebased_7 : decode cX9_rebased 7 = .ok (.invokevirtual 169, 3) := by decide +kernel
theorem dX9_rebased_10 : decode cX9_rebased 10 = .ok (.ifCond .eq 45, 3) := by decide +kernel
theorem dX9_rebased_13 : decode cX9_rebased 13 = .ok (.iload_n 2, 1) := by decide +kernel
theorem dX9_rebased_14 : decode cX9_rebased 14 = .ok (.iconst 0, 1) := by decide +kernel
theorem dX9_rebased_15 : decode cX9_rebased 15 = .ok (.aload_n 0, 1) := by decide +kernel
theorem dX9_rebased_16 : decode cX9_rebased 16 = .ok (.getfield 91, 3) := by decide +kernel
theorem dX9_rebased_19 : decode cX9_rebased 19 = .ok (.sipush 434, 3) := by decide +kernel
theorem dX9_rebased_22 : decode cX9_rebased 22 = .ok (.bipush 10, 2) := by decide +kernel
theorem dX9_rebased_24 : decode cX9_rebased 24 = .ok (.iload_n 1, 1) := by decide +kernel
theorem dX9_rebased_25 : decode cX9_rebased 25 = .ok (.imul, 1) := by decide +kernel
theorem dX9_rebased_26 : decode cX9_rebased 26 = .ok (.iadd, 1) := by decide +kernel
theorem dX9_rebased_27 : decode cX9_rebased 27 = .ok (.iaload, 1) := by decide +kernel
theorem dX9_rebased_28 : decode cX9_rebased 28 = .ok (.iconst 1, 1) := by decide +kernel
theorem dX9_rebased_29 : decode cX9_rebased 29 = .ok (.isub, 1) := by decide +kernel
theorem dX9_rebased_30 : decode cX9_rebased 30 = .ok (.invokestatic 107, 3) := by decide +kernel
theorem dX9_rebased_33 : decode cX9_rebased 33 = .ok (.ifCond .eq 22, 3) := by decide +kernel
theorem dX9_rebased_36 : decode cX9_rebased 36 = .ok (.iload_n 3, 1) := by decide +kernel
theorem dX9_rebased_37 : decode cX9_rebased 37 = .ok (.iconst 0, 1) := by decide +kernel
theorem dX9_rebased_38 : decode cX9_rebased 38 = .ok (.iconst 2, 1) := by decide +kernel
theorem dX9_rebased_39 : decode cX9_rebased 39 = .ok (.invokestatic 107, 3) := by decide +kernel
theorem dX9_rebased_42 : decode cX9_rebased 42 = .ok (.ifCond .eq 13, 3) := by decide +kernel
theorem dX9_rebased_45 : decode cX9_rebased 45 = .ok (.aload_n 0, 1) := by decide +kernel
theorem dX9_rebased_46 : decode cX9_rebased 46 = .ok (.iload_n 1, 1) := by decide +kernel
theorem dX9_rebased_47 : decode cX9_rebased 47 = .ok (.iload_n 2, 1) := by decide +kernel
theorem dX9_rebased_48 : decode cX9_rebased 48 = .ok (.iload_n 3, 1) := by decide +kernel
theorem dX9_rebased_49 : decode cX9_rebased 49 = .ok (.invokevirtual 181, 3) := by decide +kernel
theorem dX9_rebased_52 : decode cX9_rebased 52 = .ok (.goto 4, 3) := by decide +kernel
theorem dX9_rebased_55 : decode cX9_rebased 55 = .ok (.iconst (-1), 1) := by decide +kernel
theorem dX9_rebased_56 : decode cX9_rebased 56 = .ok (.ireturn, 1) := by decide +kernel
theorem dX9_ratioOf_0 : decode cX9_ratioOf 0 = .ok (.aload_n 0, 1) := by decide +kernel
theorem dX9_ratioOf_1 : decode cX9_ratioOf 1 = .ok (.iload_n 1, 1) := by decide +kernel
theorem dX9_ratioOf_2 : decode cX9_ratioOf 2 = .ok (.iload_n 3, 1) := by decide +kernel
theorem dX9_ratioOf_3 : decode cX9_ratioOf 3 = .ok (.invokevirtual 178, 3) := by decide +kernel
theorem dX9_ratioOf_6 : decode cX9_ratioOf 6 = .ok (.i2l, 1) := by decide +kernel
theorem dX9_ratioOf_7 : decode cX9_ratioOf 7 = .ok (.lstore 4, 2) := by decide +kernel
theorem dX9_ratioOf_9 : decode cX9_ratioOf 9 = .ok (.aload_n 0, 1) := by decide +kernel
theorem dX9_ratioOf_10 : decode cX9_ratioOf 10 = .ok (.iload_n 1, 1) := by decide +kernel
theorem dX9_ratioOf_11 : decode cX9_ratioOf 11 = .ok (.iload_n 2, 1) := by decide +kernel
theorem dX9_ratioOf_12 : decode cX9_ratioOf 12 = .ok (.invokevirtual 178, 3) := by decide +kernel
theorem dX9_ratioOf_15 : decode cX9_ratioOf 15 = .ok (.i2l, 1) := by decide +kernel
theorem dX9_ratioOf_16 : decode cX9_ratioOf 16 = .ok (.lstore 6, 2) := by decide +kernel
theorem dX9_ratioOf_18 : decode cX9_ratioOf 18 = .ok (.iconst 0, 1) := by decide +kernel
theorem dX9_ratioOf_19 : decode cX9_ratioOf 19 = .ok (.istore 8, 2) := by decide +kernel
theorem dX9_ratioOf_21 : decode cX9_ratioOf 21 = .ok (.iload 8, 2) := by decide +kernel
theorem dX9_ratioOf_23 : decode cX9_ratioOf 23 = .ok (.aload_n 0, 1) := by decide +kernel
theorem dX9_ratioOf_24 : decode cX9_ratioOf 24 = .ok (.getfield 91, 3) := by decide +kernel
theorem dX9_ratioOf_27 : decode cX9_ratioOf 27 = .ok (.sipush 434, 3) := by decide +kernel
theorem dX9_ratioOf_30 : decode cX9_ratioOf 30 = .ok (.bipush 10, 2) := by decide +kernel
theorem dX9_ratioOf_32 : decode cX9_ratioOf 32 = .ok (.iload_n 1, 1) := by decide +kernel
theorem dX9_ratioOf_33 : decode cX9_ratioOf 33 = .ok (.imul, 1) := by decide +kernel
theorem dX9_ratioOf_34 : decode cX9_ratioOf 34 = .ok (.iadd, 1) := by decide +kernel
theorem dX9_ratioOf_35 : decode cX9_ratioOf 35 = .ok (.iaload, 1) := by decide +kernel
theorem dX9_ratioOf_36 : decode cX9_ratioOf 36 = .ok (.if_icmp .ge 58, 3) := by decide +kernel
theorem dX9_ratioOf_39 : decode cX9_ratioOf 39 = .ok (.aload_n 0, 1) := by decide +kernel
theorem dX9_ratioOf_40 : decode cX9_ratioOf 40 = .ok (.iload_n 1, 1) := by decide +kernel
theorem dX9_ratioOf_41 : decode cX9_ratioOf 41 = .ok (.iload 8, 2) := by decide +kernel
theorem dX9_ratioOf_43 : decode cX9_ratioOf 43 = .ok (.iconst 0, 1) := by decide +kernel
theorem dX9_ratioOf_44 : decode cX9_ratioOf 44 = .ok (.invokevirtual 181, 3) := by decide +kernel
theorem dX9_ratioOf_47 : decode cX9_ratioOf 47 = .ok (.iload_n 2, 1) := by decide +kernel
theorem dX9_ratioOf_48 : decode cX9_ratioOf 48 = .ok (.iload_n 3, 1) := by decide +kernel
theorem dX9_ratioOf_49 : decode cX9_ratioOf 49 = .ok (.iconst 1, 1) := by decide +kernel
theorem dX9_ratioOf_50 : decode cX9_ratioOf 50 = .ok (.isub, 1) := by decide +kernel
theorem dX9_ratioOf_51 : decode cX9_ratioOf 51 = .ok (.invokestatic 107, 3) := by decide +kernel
theorem dX9_ratioOf_54 : decode cX9_ratioOf 54 = .ok (.ifCond .ne 6, 3) := by decide +kernel
theorem dX9_ratioOf_57 : decode cX9_ratioOf 57 = .ok (.goto 31, 3) := by decide +kernel
theorem dX9_ratioOf_60 : decode cX9_ratioOf 60 = .ok (.lload 4, 2) := by decide +kernel
theorem dX9_ratioOf_62 : decode cX9_ratioOf 62 = .ok (.aload_n 0, 1) := by decide +kernel
theorem dX9_ratioOf_63 : decode cX9_ratioOf 63 = .ok (.iload_n 1, 1) := by decide +kernel
theorem dX9_ratioOf_64 : decode cX9_ratioOf 64 = .ok (.iload 8, 2) := by decide +kernel
theorem dX9_ratioOf_66 : decode cX9_ratioOf 66 = .ok (.iconst 1, 1) := by decide +kernel
theorem dX9_ratioOf_67 : decode cX9_ratioOf 67 = .ok (.invokevirtual 181, 3) := by decide +kernel
theorem dX9_ratioOf_70 : decode cX9_ratioOf 70 = .ok (.i2l, 1) := by decide +kernel
theorem dX9_ratioOf_71 : decode cX9_ratioOf 71 = .ok (.lmul, 1) := by decide +kernel
theorem dX9_ratioOf_72 : decode cX9_ratioOf 72 = .ok (.lstore 4, 2) := by decide +kernel
theorem dX9_ratioOf_74 : decode cX9_ratioOf 74 = .ok (.lload 6, 2) := by decide +kernel
theorem dX9_ratioOf_76 : decode cX9_ratioOf 76 = .ok (.aload_n 0, 1) := by decide +kernel
theorem dX9_ratioOf_77 : decode cX9_ratioOf 77 = .ok (.iload_n 1, 1) := by decide +kernel
theorem dX9_ratioOf_78 : decode cX9_ratioOf 78 = .ok (.iload 8, 2) := by decide +kernel
theorem dX9_ratioOf_80 : decode cX9_ratioOf 80 = .ok (.iconst 2, 1) := by decide +kernel
theorem dX9_ratioOf_81 : decode cX9_ratioOf 81 = .ok (.invokevirtual 181, 3) := by decide +kernel
theorem dX9_ratioOf_84 : decode cX9_ratioOf 84 = .ok (.i2l, 1) := by decide +kernel
theorem dX9_ratioOf_85 : decode cX9_ratioOf 85 = .ok (.lmul, 1) := by decide +kernel
theorem dX9_ratioOf_86 : decode cX9_ratioOf 86 = .ok (.lstore 6, 2) := by decide +kernel
theorem dX9_ratioOf_88 : decode cX9_ratioOf 88 = .ok (.iinc 8 1, 3) := by decide +kernel
theorem dX9_ratioOf_91 : decode cX9_ratioOf 91 = .ok (.goto (-70), 3) := by decide +kernel
theorem dX9_ratioOf_94 : decode cX9_ratioOf 94 = .ok (.lload 4, 2) := by decide +kernel
theorem dX9_ratioOf_96 : decode cX9_ratioOf 96 = .ok (.ldc2_w 185, 3) := by decide +kernel
theorem dX9_ratioOf_99 : decode cX9_ratioOf 99 = .ok (.lmul, 1) := by decide +kernel
theorem dX9_ratioOf_100 : decode cX9_ratioOf 100 = .ok (.lload 6, 2) := by decide +kernel
theorem dX9_ratioOf_102 : decode cX9_ratioOf 102 = .ok (.ldiv, 1) := by decide +kernel
theorem dX9_ratioOf_103 : decode cX9_ratioOf 103 = .ok (.lstore 8, 2) := by decide +kernel
theorem dX9_ratioOf_105 : decode cX9_ratioOf 105 = .ok (.lload 8, 2) := by decide +kernel
theorem dX9_ratioOf_107 : decode cX9_ratioOf 107 = .ok (.ldc2_w 187, 3) := by decide +kernel
theorem dX9_ratioOf_110 : decode cX9_ratioOf 110 = .ok (.lcmp, 1) := by decide +kernel
theorem dX9_ratioOf_111 : decode cX9_ratioOf 111 = .ok (.ifCond .le 8, 3) := by decide +kernel
theorem dX9_ratioOf_114 : decode cX9_ratioOf 114 = .ok (.ldc 189, 2) := by decide +kernel
theorem dX9_ratioOf_116 : decode cX9_ratioOf 116 = .ok (.goto 6, 3) := by decide +kernel
theorem dX9_ratioOf_119 : decode cX9_ratioOf 119 = .ok (.lload 8, 2) := by decide +kernel
theorem dX9_ratioOf_121 : decode cX9_ratioOf 121 = .ok (.l2i, 1) := by decide +kernel
theorem dX9_ratioOf_122 : decode cX9_ratioOf 122 = .ok (.ireturn, 1) := by decide +kernel
theorem dX9_ratio_0 : decode cX9_ratio 0 = .ok (.aload_n 0, 1) := by decide +kernel
theorem dX9_ratio_1 : decode cX9_ratio 1 = .ok (.iconst 0, 1) := by decide +kernel
theorem dX9_ratio_2 : decode cX9_ratio 2 = .ok (.putfield 1, 3) := by decide +kernel
theorem dX9_ratio_5 : decode cX9_ratio 5 = .ok (.aload_n 0, 1) := by decide +kernel
theorem dX9_ratio_6 : decode cX9_ratio 6 = .ok (.iload_n 1, 1) := by decide +kernel
theorem dX9_ratio_7 : decode cX9_ratio 7 = .ok (.invokevirtual 169, 3) := by decide +kernel
theorem dX9_ratio_10 : decode cX9_ratio 10 = .ok (.ifCond .eq 40, 3) := by decide +kernel
theorem dX9_ratio_13 : decode cX9_ratio 13 = .ok (.iload_n 2, 1) := by decide +kernel
theorem dX9_ratio_14 : decode cX9_ratio 14 = .ok (.invokestatic 172, 3) := by decide +kernel
theorem dX9_ratio_17 : decode cX9_ratio 17 = .ok (.ifCond .eq 33, 3) := by decide +kernel
theorem dX9_ratio_20 : decode cX9_ratio 20 = .ok (.iload_n 3, 1) := by decide +kernel
theorem dX9_ratio_21 : decode cX9_ratio 21 = .ok (.invokestatic 172, 3) := by decide +kernel
theorem dX9_ratio_24 : decode cX9_ratio 24 = .ok (.ifCond .eq 26, 3) := by decide +kernel
theorem dX9_ratio_27 : decode cX9_ratio 27 = .ok (.iload_n 2, 1) := by decide +kernel
theorem dX9_ratio_28 : decode cX9_ratio 28 = .ok (.iload_n 3, 1) := by decide +kernel
theorem dX9_ratio_29 : decode cX9_ratio 29 = .ok (.if_icmp .gt 21, 3) := by decide +kernel
theorem dX9_ratio_32 : decode cX9_ratio 32 = .ok (.aload_n 0, 1) := by decide +kernel
theorem dX9_ratio_33 : decode cX9_ratio 33 = .ok (.iload_n 1, 1) := by decide +kernel
theorem dX9_ratio_34 : decode cX9_ratio 34 = .ok (.iload_n 2, 1) := by decide +kernel
theorem dX9_ratio_35 : decode cX9_ratio 35 = .ok (.invokevirtual 156, 3) := by decide +kernel
theorem dX9_ratio_38 : decode cX9_ratio 38 = .ok (.ifCond .eq 12, 3) := by decide +kernel
theorem dX9_ratio_41 : decode cX9_ratio 41 = .ok (.aload_n 0, 1) := by decide +kernel
theorem dX9_ratio_42 : decode cX9_ratio 42 = .ok (.iload_n 1, 1) := by decide +kernel
theorem dX9_ratio_43 : decode cX9_ratio 43 = .ok (.iload_n 3, 1) := by decide +kernel
theorem dX9_ratio_44 : decode cX9_ratio 44 = .ok (.invokevirtual 156, 3) := by decide +kernel
theorem dX9_ratio_47 : decode cX9_ratio 47 = .ok (.ifCond .ne 8, 3) := by decide +kernel
theorem dX9_ratio_50 : decode cX9_ratio 50 = .ok (.aload_n 0, 1) := by decide +kernel
theorem dX9_ratio_51 : decode cX9_ratio 51 = .ok (.invokevirtual 190, 3) := by decide +kernel
theorem dX9_ratio_54 : decode cX9_ratio 54 = .ok (.ireturn, 1) := by decide +kernel
theorem dX9_ratio_55 : decode cX9_ratio 55 = .ok (.aload_n 0, 1) := by decide +kernel
theorem dX9_ratio_56 : decode cX9_ratio 56 = .ok (.iload_n 1, 1) := by decide +kernel
theorem dX9_ratio_57 : decode cX9_ratio 57 = .ok (.iload_n 2, 1) := by decide +kernel
theorem dX9_ratio_58 : decode cX9_ratio 58 = .ok (.iload_n 3, 1) := by decide +kernel
theorem dX9_ratio_59 : decode cX9_ratio 59 = .ok (.invokevirtual 193, 3) := by decide +kernel
theorem dX9_ratio_62 : decode cX9_ratio 62 = .ok (.ireturn, 1) := by decide +kernel
theorem dX9_toldBy_0 : decode cX9_toldBy 0 = .ok (.aload_n 0, 1) := by decide +kernel
theorem dX9_toldBy_1 : decode cX9_toldBy 1 = .ok (.getfield 91, 3) := by decide +kernel
theorem dX9_toldBy_4 : decode cX9_toldBy 4 = .ok (.sipush 495, 3) := by decide +kernel
theorem dX9_toldBy_7 : decode cX9_toldBy 7 = .ok (.bipush 19, 2) := by decide +kernel
theorem dX9_toldBy_9 : decode cX9_toldBy 9 = .ok (.iload_n 1, 1) := by decide +kernel
theorem dX9_toldBy_10 : decode cX9_toldBy 10 = .ok (.imul, 1) := by decide +kernel
theorem dX9_toldBy_11 : decode cX9_toldBy 11 = .ok (.iadd, 1) := by decide +kernel
theorem dX9_toldBy_12 : decode cX9_toldBy 12 = .ok (.iload_n 2, 1) := by decide +kernel
theorem dX9_toldBy_13 : decode cX9_toldBy 13 = .ok (.iadd, 1) := by decide +kernel
theorem dX9_toldBy_14 : decode cX9_toldBy 14 = .ok (.iaload, 1) := by decide +kernel
theorem dX9_toldBy_15 : decode cX9_toldBy 15 = .ok (.ireturn, 1) := by decide +kernel
theorem dX9_contract_0 : decode cX9_contract 0 = .ok (.aload_n 0, 1) := by decide +kernel
theorem dX9_contract_1 : decode cX9_contract 1 = .ok (.iconst 0, 1) := by decide +kernel
theorem dX9_contract_2 : decode cX9_contract 2 = .ok (.putfield 1, 3) := by decide +kernel
theorem dX9_contract_5 : decode cX9_contract 5 = .ok (.aload_n 0, 1) := by decide +kernel
theorem dX9_contract_6 : decode cX9_contract 6 = .ok (.iload_n 1, 1) := by decide +kernel
theorem dX9_contract_7 : decode cX9_contract 7 = .ok (.invokevirtual 196, 3) := by decide +kernel
theorem dX9_contract_10 : decode cX9_contract 10 = .ok (.ifCond .eq 32, 3) := by decide +kernel
theorem dX9_contract_13 : decode cX9_contract 13 = .ok (.iload_n 2, 1) := by decide +kernel
theorem dX9_contract_14 : decode cX9_contract 14 = .ok (.iconst 0, 1) := by decide +kernel
theorem dX9_contract_15 : decode cX9_contract 15 = .ok (.bipush 6, 2) := by decide +kernel
theorem dX9_contract_17 : decode cX9_contract 17 = .ok (.iconst 2, 1) := by decide +kernel
theorem dX9_contract_18 : decode cX9_contract 18 = .ok (.aload_n 0, 1) := by decide +kernel
theorem dX9_contract_19 : decode cX9_contract 19 = .ok (.iload_n 1, 1) := by decide +kernel
theorem dX9_contract_20 : decode cX9_contract 20 = .ok (.bipush 6, 2) := by decide +kernel
theorem dX9_contract_22 : decode cX9_contract 22 = .ok (.invokevirtual 199, 3) := by decide +kernel
theorem dX9_contract_25 : decode cX9_contract 25 = .ok (.imul, 1) := by decide +kernel
theorem dX9_contract_26 : decode cX9_contract 26 = .ok (.iadd, 1) := by decide +kernel
theorem dX9_contract_27 : decode cX9_contract 27 = .ok (.invokestatic 107, 3) := by decide +kernel
theorem dX9_contract_30 : decode cX9_contract 30 = .ok (.ifCond .eq 12, 3) := by decide +kernel
theorem dX9_contract_33 : decode cX9_contract 33 = .ok (.aload_n 0, 1) := by decide +kernel
theorem dX9_contract_34 : decode cX9_contract 34 = .ok (.iload_n 1, 1) := by decide +kernel
theorem dX9_contract_35 : decode cX9_contract 35 = .ok (.iload_n 2, 1) := by decide +kernel
theorem dX9_contract_36 : decode cX9_contract 36 = .ok (.invokevirtual 199, 3) := by decide +kernel
theorem dX9_contract_39 : decode cX9_contract 39 = .ok (.goto 4, 3) := by decide +kernel
theorem dX9_contract_42 : decode cX9_contract 42 = .ok (.iconst (-1), 1) := by decide +kernel
theorem dX9_contract_43 : decode cX9_contract 43 = .ok (.ireturn, 1) := by decide +kernel
theorem dX9_factorOf_0 : decode cX9_factorOf 0 = .ok (.ldc2_w 185, 3) := by decide +kernel
theorem dX9_factorOf_3 : decode cX9_factorOf 3 = .ok (.aload_n 0, 1) := by decide +kernel
theorem dX9_factorOf_4 : decode cX9_factorOf 4 = .ok (.iload_n 1, 1) := by decide +kernel
theorem dX9_factorOf_5 : decode cX9_factorOf 5 = .ok (.iconst 1, 1) := by decide +kernel
theorem dX9_factorOf_6 : decode cX9_factorOf 6 = .ok (.invokevirtual 199, 3) := by decide +kernel
theorem dX9_factorOf_9 : decode cX9_factorOf 9 = .ok (.i2l, 1) := by decide +kernel
theorem dX9_factorOf_10 : decode cX9_factorOf 10 = .ok (.lmul, 1) := by decide +kernel
theorem dX9_factorOf_11 : decode cX9_factorOf 11 = .ok (.lstore_n 3, 1) := by decide +kernel
theorem dX9_factorOf_12 : decode cX9_factorOf 12 = .ok (.iconst 0, 1) := by decide +kernel
theorem dX9_factorOf_13 : decode cX9_factorOf 13 = .ok (.istore 5, 2) := by decide +kernel
theorem dX9_factorOf_15 : decode cX9_factorOf 15 = .ok (.iload 5, 2) := by decide +kernel
theorem dX9_factorOf_17 : decode cX9_factorOf 17 = .ok (.aload_n 0, 1) := by decide +kernel
theorem dX9_factorOf_18 : decode cX9_factorOf 18 = .ok (.iload_n 1, 1) := by decide +kernel
theorem dX9_factorOf_19 : decode cX9_factorOf 19 = .ok (.bipush 6, 2) := by decide +kernel
theorem dX9_factorOf_21 : decode cX9_factorOf 21 = .ok (.invokevirtual 199, 3) := by decide +kernel
theorem dX9_factorOf_24 : decode cX9_factorOf 24 = .ok (.if_icmp .ge 60, 3) := by decide +kernel
theorem dX9_factorOf_27 : decode cX9_factorOf 27 = .ok (.aload_n 0, 1) := by decide +kernel
theorem dX9_factorOf_28 : decode cX9_factorOf 28 = .ok (.iload_n 1, 1) := by decide +kernel
theorem dX9_factorOf_29 : decode cX9_factorOf 29 = .ok (.bipush 8, 2) := by decide +kernel
theorem dX9_factorOf_31 : decode cX9_factorOf 31 = .ok (.iconst 2, 1) := by decide +kernel
theorem dX9_factorOf_32 : decode cX9_factorOf 32 = .ok (.iload 5, 2) := by decide +kernel
theorem dX9_factorOf_34 : decode cX9_factorOf 34 = .ok (.imul, 1) := by decide +kernel
theorem dX9_factorOf_35 : decode cX9_factorOf 35 = .ok (.iadd, 1) := by decide +kernel
theorem dX9_factorOf_36 : decode cX9_factorOf 36 = .ok (.invokevirtual 199, 3) := by decide +kernel
theorem dX9_factorOf_39 : decode cX9_factorOf 39 = .ok (.istore 6, 2) := by decide +kernel
theorem dX9_factorOf_41 : decode cX9_factorOf 41 = .ok (.lload_n 3, 1) := by decide +kernel
theorem dX9_factorOf_42 : decode cX9_factorOf 42 = .ok (.aload_n 0, 1) := by decide +kernel
theorem dX9_factorOf_43 : decode cX9_factorOf 43 = .ok (.iload_n 1, 1) := by decide +kernel
theorem dX9_factorOf_44 : decode cX9_factorOf 44 = .ok (.bipush 7, 2) := by decide +kernel
theorem dX9_factorOf_46 : decode cX9_factorOf 46 = .ok (.iconst 2, 1) := by decide +kernel
theorem dX9_factorOf_47 : decode cX9_factorOf 47 = .ok (.iload 5, 2) := by decide +kernel
theorem dX9_factorOf_49 : decode cX9_factorOf 49 = .ok (.imul, 1) := by decide +kernel
theorem dX9_factorOf_50 : decode cX9_factorOf 50 = .ok (.iadd, 1) := by decide +kernel
theorem dX9_factorOf_51 : decode cX9_factorOf 51 = .ok (.invokevirtual 199, 3) := by decide +kernel
theorem dX9_factorOf_54 : decode cX9_factorOf 54 = .ok (.i2l, 1) := by decide +kernel
theorem dX9_factorOf_55 : decode cX9_factorOf 55 = .ok (.aload_n 0, 1) := by decide +kernel
theorem dX9_factorOf_56 : decode cX9_factorOf 56 = .ok (.iload 6, 2) := by decide +kernel
theorem dX9_factorOf_58 : decode cX9_factorOf 58 = .ok (.aload_n 0, 1) := by decide +kernel
theorem dX9_factorOf_59 : decode cX9_factorOf 59 = .ok (.iload_n 1, 1) := by decide +kernel
theorem dX9_factorOf_60 : decode cX9_factorOf 60 = .ok (.iconst 2, 1) := by decide +kernel
theorem dX9_factorOf_61 : decode cX9_factorOf 61 = .ok (.invokevirtual 199, 3) := by decide +kernel
theorem dX9_factorOf_64 : decode cX9_factorOf 64 = .ok (.aload_n 0, 1) := by decide +kernel
theorem dX9_factorOf_65 : decode cX9_factorOf 65 = .ok (.iload 6, 2) := by decide +kernel
theorem dX9_factorOf_67 : decode cX9_factorOf 67 = .ok (.iload_n 2, 1) := by decide +kernel
theorem dX9_factorOf_68 : decode cX9_factorOf 68 = .ok (.invokevirtual 175, 3) := by decide +kernel
theorem dX9_factorOf_71 : decode cX9_factorOf 71 = .ok (.invokevirtual 193, 3) := by decide +kernel
theorem dX9_factorOf_74 : decode cX9_factorOf 74 = .ok (.i2l, 1) := by decide +kernel
theorem dX9_factorOf_75 : decode cX9_factorOf 75 = .ok (.lmul, 1) := by decide +kernel
theorem dX9_factorOf_76 : decode cX9_factorOf 76 = .ok (.ladd, 1) := by decide +kernel
theorem dX9_factorOf_77 : decode cX9_factorOf 77 = .ok (.lstore_n 3, 1) := by decide +kernel
theorem dX9_factorOf_78 : decode cX9_factorOf 78 = .ok (.iinc 5 1, 3) := by decide +kernel
theorem dX9_factorOf_81 : decode cX9_factorOf 81 = .ok (.goto (-66), 3) := by decide +kernel
theorem dX9_factorOf_84 : decode cX9_factorOf 84 = .ok (.lload_n 3, 1) := by decide +kernel
theorem dX9_factorOf_85 : decode cX9_factorOf 85 = .ok (.ldc2_w 202, 3) := by decide +kernel
theorem dX9_factorOf_88 : decode cX9_factorOf 88 = .ok (.ldiv, 1) := by decide +kernel
theorem dX9_factorOf_89 : decode cX9_factorOf 89 = .ok (.l2i, 1) := by decide +kernel
theorem dX9_factorOf_90 : decode cX9_factorOf 90 = .ok (.ireturn, 1) := by decide +kernel
theorem dX9_moveOf_0 : decode cX9_moveOf 0 = .ok (.aload_n 0, 1) := by decide +kernel
theorem dX9_moveOf_1 : decode cX9_moveOf 1 = .ok (.iload_n 1, 1) := by decide +kernel
theorem dX9_moveOf_2 : decode cX9_moveOf 2 = .ok (.iload_n 2, 1) := by decide +kernel
theorem dX9_moveOf_3 : decode cX9_moveOf 3 = .ok (.invokevirtual 204, 3) := by decide +kernel
theorem dX9_moveOf_6 : decode cX9_moveOf 6 = .ok (.ldc 207, 2) := by decide +kernel
theorem dX9_moveOf_8 : decode cX9_moveOf 8 = .ok (.isub, 1) := by decide +kernel
theorem dX9_moveOf_9 : decode cX9_moveOf 9 = .ok (.istore_n 3, 1) := by decide +kernel
theorem dX9_moveOf_10 : decode cX9_moveOf 10 = .ok (.iload_n 3, 1) := by decide +kernel
theorem dX9_moveOf_11 : decode cX9_moveOf 11 = .ok (.ifCond .ge 8, 3) := by decide +kernel
theorem dX9_moveOf_14 : decode cX9_moveOf 14 = .ok (.iload_n 3, 1) := by decide +kernel
theorem dX9_moveOf_15 : decode cX9_moveOf 15 = .ok (.ineg, 1) := by decide +kernel
theorem dX9_moveOf_16 : decode cX9_moveOf 16 = .ok (.goto 4, 3) := by decide +kernel
theorem dX9_moveOf_19 : decode cX9_moveOf 19 = .ok (.iload_n 3, 1) := by decide +kernel
theorem dX9_moveOf_20 : decode cX9_moveOf 20 = .ok (.istore 4, 2) := by decide +kernel
theorem dX9_moveOf_22 : decode cX9_moveOf 22 = .ok (.sipush 1000, 3) := by decide +kernel
theorem dX9_moveOf_25 : decode cX9_moveOf 25 = .ok (.aload_n 0, 1) := by decide +kernel
theorem dX9_moveOf_26 : decode cX9_moveOf 26 = .ok (.iload_n 1, 1) := by decide +kernel
theorem dX9_moveOf_27 : decode cX9_moveOf 27 = .ok (.iconst 3, 1) := by decide +kernel
theorem dX9_moveOf_28 : decode cX9_moveOf 28 = .ok (.invokevirtual 199, 3) := by decide +kernel
theorem dX9_moveOf_31 : decode cX9_moveOf 31 = .ok (.imul, 1) := by decide +kernel
theorem dX9_moveOf_32 : decode cX9_moveOf 32 = .ok (.istore 5, 2) := by decide +kernel
theorem dX9_moveOf_34 : decode cX9_moveOf 34 = .ok (.iload 4, 2) := by decide +kernel
theorem dX9_moveOf_36 : decode cX9_moveOf 36 = .ok (.iload 5, 2) := by decide +kernel
theorem dX9_moveOf_38 : decode cX9_moveOf 38 = .ok (.if_icmp .gt 5, 3) := by decide +kernel
theorem dX9_moveOf_41 : decode cX9_moveOf 41 = .ok (.iconst 0, 1) := by decide +kernel
theorem dX9_moveOf_42 : decode cX9_moveOf 42 = .ok (.ireturn, 1) := by decide +kernel
theorem dX9_moveOf_43 : decode cX9_moveOf 43 = .ok (.aload_n 0, 1) := by decide +kernel
theorem dX9_moveOf_44 : decode cX9_moveOf 44 = .ok (.iload_n 1, 1) := by decide +kernel
theorem dX9_moveOf_45 : decode cX9_moveOf 45 = .ok (.iconst 5, 1) := by decide +kernel
theorem dX9_moveOf_46 : decode cX9_moveOf 46 = .ok (.invokevirtual 199, 3) := by decide +kernel
theorem dX9_moveOf_49 : decode cX9_moveOf 49 = .ok (.iconst 1, 1) := by decide +kernel
theorem dX9_moveOf_50 : decode cX9_moveOf 50 = .ok (.if_icmp .ne 10, 3) := by decide +kernel
theorem dX9_moveOf_53 : decode cX9_moveOf 53 = .ok (.iload 4, 2) := by decide +kernel
theorem dX9_moveOf_55 : decode cX9_moveOf 55 = .ok (.iload 5, 2) := by decide +kernel
theorem dX9_moveOf_57 : decode cX9_moveOf 57 = .ok (.isub, 1) := by decide +kernel
theorem dX9_moveOf_58 : decode cX9_moveOf 58 = .ok (.istore 4, 2) := by decide +kernel
theorem dX9_moveOf_60 : decode cX9_moveOf 60 = .ok (.iload 4, 2) := by decide +kernel
theorem dX9_moveOf_62 : decode cX9_moveOf 62 = .ok (.i2l, 1) := by decide +kernel
theorem dX9_moveOf_63 : decode cX9_moveOf 63 = .ok (.aload_n 0, 1) := by decide +kernel
theorem dX9_moveOf_64 : decode cX9_moveOf 64 = .ok (.iload_n 1, 1) := by decide +kernel
theorem dX9_moveOf_65 : decode cX9_moveOf 65 = .ok (.iconst 4, 1) := by decide +kernel
theorem dX9_moveOf_66 : decode cX9_moveOf 66 = .ok (.invokevirtual 199, 3) := by decide +kernel
theorem dX9_moveOf_69 : decode cX9_moveOf 69 = .ok (.i2l, 1) := by decide +kernel
theorem dX9_moveOf_70 : decode cX9_moveOf 70 = .ok (.lmul, 1) := by decide +kernel
theorem dX9_moveOf_71 : decode cX9_moveOf 71 = .ok (.ldc2_w 208, 3) := by decide +kernel
theorem dX9_moveOf_74 : decode cX9_moveOf 74 = .ok (.ldiv, 1) := by decide +kernel
theorem dX9_moveOf_75 : decode cX9_moveOf 75 = .ok (.l2i, 1) := by decide +kernel
theorem dX9_moveOf_76 : decode cX9_moveOf 76 = .ok (.istore 6, 2) := by decide +kernel
theorem dX9_moveOf_78 : decode cX9_moveOf 78 = .ok (.iload_n 3, 1) := by decide +kernel
theorem dX9_moveOf_79 : decode cX9_moveOf 79 = .ok (.ifCond .ge 9, 3) := by decide +kernel
theorem dX9_moveOf_82 : decode cX9_moveOf 82 = .ok (.iload 6, 2) := by decide +kernel
theorem dX9_moveOf_84 : decode cX9_moveOf 84 = .ok (.ineg, 1) := by decide +kernel
theorem dX9_moveOf_85 : decode cX9_moveOf 85 = .ok (.goto 5, 3) := by decide +kernel
theorem dX9_moveOf_88 : decode cX9_moveOf 88 = .ok (.iload 6, 2) := by decide +kernel
theorem dX9_moveOf_90 : decode cX9_moveOf 90 = .ok (.ireturn, 1) := by decide +kernel
theorem dX9_priceOf_0 : decode cX9_priceOf 0 = .ok (.aload_n 0, 1) := by decide +kernel
theorem dX9_priceOf_1 : decode cX9_priceOf 1 = .ok (.iload_n 1, 1) := by decide +kernel
theorem dX9_priceOf_2 : decode cX9_priceOf 2 = .ok (.iconst 0, 1) := by decide +kernel
theorem dX9_priceOf_3 : decode cX9_priceOf 3 = .ok (.invokevirtual 199, 3) := by decide +kernel
theorem dX9_priceOf_6 : decode cX9_priceOf 6 = .ok (.i2l, 1) := by decide +kernel
theorem dX9_priceOf_7 : decode cX9_priceOf 7 = .ok (.ldc2_w 185, 3) := by decide +kernel
theorem dX9_priceOf_10 : decode cX9_priceOf 10 = .ok (.aload_n 0, 1) := by decide +kernel
theorem dX9_priceOf_11 : decode cX9_priceOf 11 = .ok (.iload_n 1, 1) := by decide +kernel
theorem dX9_priceOf_12 : decode cX9_priceOf 12 = .ok (.iload_n 2, 1) := by decide +kernel
theorem dX9_priceOf_13 : decode cX9_priceOf 13 = .ok (.invokevirtual 210, 3) := by decide +kernel
theorem dX9_priceOf_16 : decode cX9_priceOf 16 = .ok (.i2l, 1) := by decide +kernel
theorem dX9_priceOf_17 : decode cX9_priceOf 17 = .ok (.ladd, 1) := by decide +kernel
theorem dX9_priceOf_18 : decode cX9_priceOf 18 = .ok (.lmul, 1) := by decide +kernel
theorem dX9_priceOf_19 : decode cX9_priceOf 19 = .ok (.ldc2_w 213, 3) := by decide +kernel
theorem dX9_priceOf_22 : decode cX9_priceOf 22 = .ok (.ladd, 1) := by decide +kernel
theorem dX9_priceOf_23 : decode cX9_priceOf 23 = .ok (.ldc2_w 185, 3) := by decide +kernel
theorem dX9_priceOf_26 : decode cX9_priceOf 26 = .ok (.ldiv, 1) := by decide +kernel
theorem dX9_priceOf_27 : decode cX9_priceOf 27 = .ok (.l2i, 1) := by decide +kernel
theorem dX9_priceOf_28 : decode cX9_priceOf 28 = .ok (.ireturn, 1) := by decide +kernel
theorem dX9_price_0 : decode cX9_price 0 = .ok (.aload_n 0, 1) := by decide +kernel
theorem dX9_price_1 : decode cX9_price 1 = .ok (.iconst 0, 1) := by decide +kernel
theorem dX9_price_2 : decode cX9_price 2 = .ok (.putfield 1, 3) := by decide +kernel
theorem dX9_price_5 : decode cX9_price 5 = .ok (.aload_n 0, 1) := by decide +kernel
theorem dX9_price_6 : decode cX9_price 6 = .ok (.iload_n 1, 1) := by decide +kernel
theorem dX9_price_7 : decode cX9_price 7 = .ok (.invokevirtual 196, 3) := by decide +kernel
theorem dX9_price_10 : decode cX9_price 10 = .ok (.ifCond .eq 29, 3) := by decide +kernel
theorem dX9_price_13 : decode cX9_price 13 = .ok (.iload_n 2, 1) := by decide +kernel
theorem dX9_price_14 : decode cX9_price 14 = .ok (.aload_n 0, 1) := by decide +kernel
theorem dX9_price_15 : decode cX9_price 15 = .ok (.iload_n 1, 1) := by decide +kernel
theorem dX9_price_16 : decode cX9_price 16 = .ok (.iconst 2, 1) := by decide +kernel
theorem dX9_price_17 : decode cX9_price 17 = .ok (.invokevirtual 199, 3) := by decide +kernel
theorem dX9_price_20 : decode cX9_price 20 = .ok (.aload_n 0, 1) := by decide +kernel
theorem dX9_price_21 : decode cX9_price 21 = .ok (.invokevirtual 163, 3) := by decide +kernel
theorem dX9_price_24 : decode cX9_price 24 = .ok (.invokestatic 107, 3) := by decide +kernel
theorem dX9_price_27 : decode cX9_price 27 = .ok (.ifCond .eq 12, 3) := by decide +kernel
theorem dX9_price_30 : decode cX9_price 30 = .ok (.iload_n 3, 1) := by decide +kernel
theorem dX9_price_31 : decode cX9_price 31 = .ok (.iconst 0, 1) := by decide +kernel
theorem dX9_price_32 : decode cX9_price 32 = .ok (.iconst 2, 1) := by decide +kernel
theorem dX9_price_33 : decode cX9_price 33 = .ok (.invokestatic 107, 3) := by decide +kernel
theorem dX9_price_36 : decode cX9_price 36 = .ok (.ifCond .ne 8, 3) := by decide +kernel
theorem dX9_price_39 : decode cX9_price 39 = .ok (.aload_n 0, 1) := by decide +kernel
theorem dX9_price_40 : decode cX9_price 40 = .ok (.invokevirtual 190, 3) := by decide +kernel
theorem dX9_price_43 : decode cX9_price 43 = .ok (.ireturn, 1) := by decide +kernel
theorem dX9_price_44 : decode cX9_price 44 = .ok (.iload_n 3, 1) := by decide +kernel
theorem dX9_price_45 : decode cX9_price 45 = .ok (.ifCond .ne 12, 3) := by decide +kernel
theorem dX9_price_48 : decode cX9_price 48 = .ok (.aload_n 0, 1) := by decide +kernel
theorem dX9_price_49 : decode cX9_price 49 = .ok (.iload_n 1, 1) := by decide +kernel
theorem dX9_price_50 : decode cX9_price 50 = .ok (.iload_n 2, 1) := by decide +kernel
theorem dX9_price_51 : decode cX9_price 51 = .ok (.invokevirtual 204, 3) := by decide +kernel
theorem dX9_price_54 : decode cX9_price 54 = .ok (.goto 23, 3) := by decide +kernel
theorem dX9_price_57 : decode cX9_price 57 = .ok (.iload_n 3, 1) := by decide +kernel
theorem dX9_price_58 : decode cX9_price 58 = .ok (.iconst 1, 1) := by decide +kernel
theorem dX9_price_59 : decode cX9_price 59 = .ok (.if_icmp .ne 12, 3) := by decide +kernel
theorem dX9_price_62 : decode cX9_price 62 = .ok (.aload_n 0, 1) := by decide +kernel
theorem dX9_price_63 : decode cX9_price 63 = .ok (.iload_n 1, 1) := by decide +kernel
theorem dX9_price_64 : decode cX9_price 64 = .ok (.iload_n 2, 1) := by decide +kernel
theorem dX9_price_65 : decode cX9_price 65 = .ok (.invokevirtual 210, 3) := by decide +kernel
theorem dX9_price_68 : decode cX9_price 68 = .ok (.goto 9, 3) := by decide +kernel
theorem dX9_price_71 : decode cX9_price 71 = .ok (.aload_n 0, 1) := by decide +kernel
theorem dX9_price_72 : decode cX9_price 72 = .ok (.iload_n 1, 1) := by decide +kernel
theorem dX9_price_73 : decode cX9_price 73 = .ok (.iload_n 2, 1) := by decide +kernel
theorem dX9_price_74 : decode cX9_price 74 = .ok (.invokevirtual 215, 3) := by decide +kernel
theorem dX9_price_77 : decode cX9_price 77 = .ok (.ireturn, 1) := by decide +kernel
theorem dX9_priceBy_0 : decode cX9_priceBy 0 = .ok (.bipush 36, 2) := by decide +kernel
theorem dX9_priceBy_2 : decode cX9_priceBy 2 = .ok (.iload_n 2, 1) := by decide +kernel
theorem dX9_priceBy_3 : decode cX9_priceBy 3 = .ok (.imul, 1) := by decide +kernel
theorem dX9_priceBy_4 : decode cX9_priceBy 4 = .ok (.aload_n 0, 1) := by decide +kernel
theorem dX9_priceBy_5 : decode cX9_priceBy 5 = .ok (.invokevirtual 163, 3) := by decide +kernel
theorem dX9_priceBy_8 : decode cX9_priceBy 8 = .ok (.iadd, 1) := by decide +kernel
theorem dX9_priceBy_9 : decode cX9_priceBy 9 = .ok (.istore 4, 2) := by decide +kernel
theorem dX9_priceBy_11 : decode cX9_priceBy 11 = .ok (.aload_n 0, 1) := by decide +kernel
theorem dX9_priceBy_12 : decode cX9_priceBy 12 = .ok (.getfield 91, 3) := by decide +kernel
theorem dX9_priceBy_15 : decode cX9_priceBy 15 = .ok (.iconst 2, 1) := by decide +kernel
theorem dX9_priceBy_16 : decode cX9_priceBy 16 = .ok (.iload 4, 2) := by decide +kernel
theorem dX9_priceBy_18 : decode cX9_priceBy 18 = .ok (.iadd, 1) := by decide +kernel
theorem dX9_priceBy_19 : decode cX9_priceBy 19 = .ok (.iaload, 1) := by decide +kernel
theorem dX9_priceBy_20 : decode cX9_priceBy 20 = .ok (.istore 5, 2) := by decide +kernel
theorem dX9_priceBy_22 : decode cX9_priceBy 22 = .ok (.aload_n 0, 1) := by decide +kernel
theorem dX9_priceBy_23 : decode cX9_priceBy 23 = .ok (.getfield 91, 3) := by decide +kernel
theorem dX9_priceBy_26 : decode cX9_priceBy 26 = .ok (.sipush 218, 3) := by decide +kernel
theorem dX9_priceBy_29 : decode cX9_priceBy 29 = .ok (.iload 4, 2) := by decide +kernel
theorem dX9_priceBy_31 : decode cX9_priceBy 31 = .ok (.iadd, 1) := by decide +kernel
theorem dX9_priceBy_32 : decode cX9_priceBy 32 = .ok (.iaload, 1) := by decide +kernel
theorem dX9_priceBy_33 : decode cX9_priceBy 33 = .ok (.istore 6, 2) := by decide +kernel
theorem dX9_priceBy_35 : decode cX9_priceBy 35 = .ok (.aload_n 0, 1) := by decide +kernel
theorem dX9_priceBy_36 : decode cX9_priceBy 36 = .ok (.getfield 91, 3) := by decide +kernel
theorem dX9_priceBy_39 : decode cX9_priceBy 39 = .ok (.iconst 2, 1) := by decide +kernel
theorem dX9_priceBy_40 : decode cX9_priceBy 40 = .ok (.iload 4, 2) := by decide +kernel
theorem dX9_priceBy_42 : decode cX9_priceBy 42 = .ok (.iadd, 1) := by decide +kernel
theorem dX9_priceBy_43 : decode cX9_priceBy 43 = .ok (.iload_n 3, 1) := by decide +kernel
theorem dX9_priceBy_44 : decode cX9_priceBy 44 = .ok (.iastore, 1) := by decide +kernel
theorem dX9_priceBy_45 : decode cX9_priceBy 45 = .ok (.aload_n 0, 1) := by decide +kernel
theorem dX9_priceBy_46 : decode cX9_priceBy 46 = .ok (.getfield 91, 3) := by decide +kernel
theorem dX9_priceBy_49 : decode cX9_priceBy 49 = .ok (.sipush 218, 3) := by decide +kernel
theorem dX9_priceBy_52 : decode cX9_priceBy 52 = .ok (.iload 4, 2) := by decide +kernel
theorem dX9_priceBy_54 : decode cX9_priceBy 54 = .ok (.iadd, 1) := by decide +kernel
theorem dX9_priceBy_55 : decode cX9_priceBy 55 = .ok (.iconst 2, 1) := by decide +kernel
theorem dX9_priceBy_56 : decode cX9_priceBy 56 = .ok (.iastore, 1) := by decide +kernel
theorem dX9_priceBy_57 : decode cX9_priceBy 57 = .ok (.aload_n 0, 1) := by decide +kernel
theorem dX9_priceBy_58 : decode cX9_priceBy 58 = .ok (.iload_n 1, 1) := by decide +kernel
theorem dX9_priceBy_59 : decode cX9_priceBy 59 = .ok (.aload_n 0, 1) := by decide +kernel
theorem dX9_priceBy_60 : decode cX9_priceBy 60 = .ok (.invokevirtual 163, 3) := by decide +kernel
theorem dX9_priceBy_63 : decode cX9_priceBy 63 = .ok (.invokevirtual 215, 3) := by decide +kernel
theorem dX9_priceBy_66 : decode cX9_priceBy 66 = .ok (.istore 7, 2) := by decide +kernel
theorem dX9_priceBy_68 : decode cX9_priceBy 68 = .ok (.aload_n 0, 1) := by decide +kernel
theorem dX9_priceBy_69 : decode cX9_priceBy 69 = .ok (.getfield 91, 3) := by decide +kernel
theorem dX9_priceBy_72 : decode cX9_priceBy 72 = .ok (.iconst 2, 1) := by decide +kernel
theorem dX9_priceBy_73 : decode cX9_priceBy 73 = .ok (.iload 4, 2) := by decide +kernel
theorem dX9_priceBy_75 : decode cX9_priceBy 75 = .ok (.iadd, 1) := by decide +kernel
theorem dX9_priceBy_76 : decode cX9_priceBy 76 = .ok (.iload 5, 2) := by decide +kernel
theorem dX9_priceBy_78 : decode cX9_priceBy 78 = .ok (.iastore, 1) := by decide +kernel
theorem dX9_priceBy_79 : decode cX9_priceBy 79 = .ok (.aload_n 0, 1) := by decide +kernel
theorem dX9_priceBy_80 : decode cX9_priceBy 80 = .ok (.getfield 91, 3) := by decide +kernel
theorem dX9_priceBy_83 : decode cX9_priceBy 83 = .ok (.sipush 218, 3) := by decide +kernel
theorem dX9_priceBy_86 : decode cX9_priceBy 86 = .ok (.iload 4, 2) := by decide +kernel
theorem dX9_priceBy_88 : decode cX9_priceBy 88 = .ok (.iadd, 1) := by decide +kernel
theorem dX9_priceBy_89 : decode cX9_priceBy 89 = .ok (.iload 6, 2) := by decide +kernel
theorem dX9_priceBy_91 : decode cX9_priceBy 91 = .ok (.iastore, 1) := by decide +kernel
theorem dX9_priceBy_92 : decode cX9_priceBy 92 = .ok (.iload 7, 2) := by decide +kernel
theorem dX9_priceBy_94 : decode cX9_priceBy 94 = .ok (.ireturn, 1) := by decide +kernel
theorem dX9_were_0 : decode cX9_were 0 = .ok (.aload_n 0, 1) := by decide +kernel
theorem dX9_were_1 : decode cX9_were 1 = .ok (.iconst 0, 1) := by decide +kernel
theorem dX9_were_2 : decode cX9_were 2 = .ok (.putfield 1, 3) := by decide +kernel
theorem dX9_were_5 : decode cX9_were 5 = .ok (.aload_n 0, 1) := by decide +kernel
theorem dX9_were_6 : decode cX9_were 6 = .ok (.iload_n 1, 1) := by decide +kernel
theorem dX9_were_7 : decode cX9_were 7 = .ok (.invokevirtual 196, 3) := by decide +kernel
theorem dX9_were_10 : decode cX9_were 10 = .ok (.ifCond .eq 32, 3) := by decide +kernel
theorem dX9_were_13 : decode cX9_were 13 = .ok (.aload_n 0, 1) := by decide +kernel
theorem dX9_were_14 : decode cX9_were 14 = .ok (.iload_n 2, 1) := by decide +kernel
theorem dX9_were_15 : decode cX9_were 15 = .ok (.invokevirtual 169, 3) := by decide +kernel
theorem dX9_were_18 : decode cX9_were 18 = .ok (.ifCond .eq 24, 3) := by decide +kernel
theorem dX9_were_21 : decode cX9_were 21 = .ok (.iload_n 3, 1) := by decide +kernel
theorem dX9_were_22 : decode cX9_were 22 = .ok (.iconst 1, 1) := by decide +kernel
theorem dX9_were_23 : decode cX9_were 23 = .ok (.sipush 999, 3) := by decide +kernel
theorem dX9_were_26 : decode cX9_were 26 = .ok (.invokestatic 107, 3) := by decide +kernel
theorem dX9_were_29 : decode cX9_were 29 = .ok (.ifCond .eq 13, 3) := by decide +kernel
theorem dX9_were_32 : decode cX9_were 32 = .ok (.aload_n 0, 1) := by decide +kernel
theorem dX9_were_33 : decode cX9_were 33 = .ok (.iload_n 1, 1) := by decide +kernel
theorem dX9_were_34 : decode cX9_were 34 = .ok (.iload_n 2, 1) := by decide +kernel
theorem dX9_were_35 : decode cX9_were 35 = .ok (.iload_n 3, 1) := by decide +kernel
theorem dX9_were_36 : decode cX9_were 36 = .ok (.invokevirtual 218, 3) := by decide +kernel
theorem dX9_were_39 : decode cX9_were 39 = .ok (.goto 4, 3) := by decide +kernel
theorem dX9_were_42 : decode cX9_were 42 = .ok (.iconst (-1), 1) := by decide +kernel
theorem dX9_were_43 : decode cX9_were 43 = .ok (.ireturn, 1) := by decide +kernel
theorem dX9_rises_0 : decode cX9_rises 0 = .ok (.aload_n 0, 1) := by decide +kernel
end
section
theorem dX9_rises_1 : decode cX9_rises 1 = .ok (.iconst 0, 1) := by decide +kernel
theorem dX9_rises_2 : decode cX9_rises 2 = .ok (.putfield 1, 3) := by decide +kernel
theorem dX9_rises_5 : decode cX9_rises 5 = .ok (.aload_n 0, 1) := by decide +kernel
theorem dX9_rises_6 : decode cX9_rises 6 = .ok (.iload_n 1, 1) := by decide +kernel
theorem dX9_rises_7 : decode cX9_rises 7 = .ok (.invokevirtual 196, 3) := by decide +kernel
theorem dX9_rises_10 : decode cX9_rises 10 = .ok (.ifCond .eq 11, 3) := by decide +kernel
theorem dX9_rises_13 : decode cX9_rises 13 = .ok (.aload_n 0, 1) := by decide +kernel
theorem dX9_rises_14 : decode cX9_rises 14 = .ok (.iload_n 2, 1) := by decide +kernel
theorem dX9_rises_15 : decode cX9_rises 15 = .ok (.invokevirtual 169, 3) := by decide +kernel
theorem dX9_rises_18 : decode cX9_rises 18 = .ok (.ifCond .ne 5, 3) := by decide +kernel
theorem dX9_rises_21 : decode cX9_rises 21 = .ok (.iconst (-1), 1) := by decide +kernel
theorem dX9_rises_22 : decode cX9_rises 22 = .ok (.ireturn, 1) := by decide +kernel
theorem dX9_rises_23 : decode cX9_rises 23 = .ok (.iconst 1, 1) := by decide +kernel
theorem dX9_rises_24 : decode cX9_rises 24 = .ok (.istore_n 3, 1) := by decide +kernel
theorem dX9_rises_25 : decode cX9_rises 25 = .ok (.iload_n 3, 1) := by decide +kernel
theorem dX9_rises_26 : decode cX9_rises 26 = .ok (.sipush 999, 3) := by decide +kernel
theorem dX9_rises_29 : decode cX9_rises 29 = .ok (.if_icmp .gt 27, 3) := by decide +kernel
theorem dX9_rises_32 : decode cX9_rises 32 = .ok (.aload_n 0, 1) := by decide +kernel
theorem dX9_rises_33 : decode cX9_rises 33 = .ok (.iload_n 1, 1) := by decide +kernel
theorem dX9_rises_34 : decode cX9_rises 34 = .ok (.iload_n 2, 1) := by decide +kernel
theorem dX9_rises_35 : decode cX9_rises 35 = .ok (.iload_n 3, 1) := by decide +kernel
theorem dX9_rises_36 : decode cX9_rises 36 = .ok (.invokevirtual 218, 3) := by decide +kernel
theorem dX9_rises_39 : decode cX9_rises 39 = .ok (.aload_n 0, 1) := by decide +kernel
theorem dX9_rises_40 : decode cX9_rises 40 = .ok (.iload_n 1, 1) := by decide +kernel
theorem dX9_rises_41 : decode cX9_rises 41 = .ok (.iconst 0, 1) := by decide +kernel
theorem dX9_rises_42 : decode cX9_rises 42 = .ok (.invokevirtual 199, 3) := by decide +kernel
theorem dX9_rises_45 : decode cX9_rises 45 = .ok (.if_icmp .le 5, 3) := by decide +kernel
theorem dX9_rises_48 : decode cX9_rises 48 = .ok (.iload_n 3, 1) := by decide +kernel
theorem dX9_rises_49 : decode cX9_rises 49 = .ok (.ireturn, 1) := by decide +kernel
theorem dX9_rises_50 : decode cX9_rises 50 = .ok (.iinc 3 1, 3) := by decide +kernel
theorem dX9_rises_53 : decode cX9_rises 53 = .ok (.goto (-28), 3) := by decide +kernel
theorem dX9_rises_56 : decode cX9_rises 56 = .ok (.bipush (-2), 2) := by decide +kernel
theorem dX9_rises_58 : decode cX9_rises 58 = .ok (.ireturn, 1) := by decide +kernel
theorem dX9_its_0 : decode cX9_its 0 = .ok (.aload_n 0, 1) := by decide +kernel
theorem dX9_its_1 : decode cX9_its 1 = .ok (.getfield 91, 3) := by decide +kernel
theorem dX9_its_4 : decode cX9_its 4 = .ok (.sipush 610, 3) := by decide +kernel
theorem dX9_its_7 : decode cX9_its 7 = .ok (.bipush 9, 2) := by decide +kernel
theorem dX9_its_9 : decode cX9_its 9 = .ok (.iload_n 1, 1) := by decide +kernel
theorem dX9_its_10 : decode cX9_its 10 = .ok (.imul, 1) := by decide +kernel
theorem dX9_its_11 : decode cX9_its 11 = .ok (.iadd, 1) := by decide +kernel
theorem dX9_its_12 : decode cX9_its 12 = .ok (.iload_n 2, 1) := by decide +kernel
theorem dX9_its_13 : decode cX9_its 13 = .ok (.iadd, 1) := by decide +kernel
theorem dX9_its_14 : decode cX9_its 14 = .ok (.iaload, 1) := by decide +kernel
theorem dX9_its_15 : decode cX9_its 15 = .ok (.ireturn, 1) := by decide +kernel
theorem dX9_waits_0 : decode cX9_waits 0 = .ok (.aload_n 0, 1) := by decide +kernel
theorem dX9_waits_1 : decode cX9_waits 1 = .ok (.iload_n 1, 1) := by decide +kernel
theorem dX9_waits_2 : decode cX9_waits 2 = .ok (.iconst 0, 1) := by decide +kernel
theorem dX9_waits_3 : decode cX9_waits 3 = .ok (.invokevirtual 160, 3) := by decide +kernel
theorem dX9_waits_6 : decode cX9_waits 6 = .ok (.istore_n 2, 1) := by decide +kernel
theorem dX9_waits_7 : decode cX9_waits 7 = .ok (.iconst 0, 1) := by decide +kernel
theorem dX9_waits_8 : decode cX9_waits 8 = .ok (.istore_n 3, 1) := by decide +kernel
theorem dX9_waits_9 : decode cX9_waits 9 = .ok (.iconst 0, 1) := by decide +kernel
theorem dX9_waits_10 : decode cX9_waits 10 = .ok (.istore 4, 2) := by decide +kernel
theorem dX9_waits_12 : decode cX9_waits 12 = .ok (.iload 4, 2) := by decide +kernel
theorem dX9_waits_14 : decode cX9_waits 14 = .ok (.aload_n 0, 1) := by decide +kernel
theorem dX9_waits_15 : decode cX9_waits 15 = .ok (.iload_n 2, 1) := by decide +kernel
theorem dX9_waits_16 : decode cX9_waits 16 = .ok (.bipush 6, 2) := by decide +kernel
theorem dX9_waits_18 : decode cX9_waits 18 = .ok (.invokevirtual 199, 3) := by decide +kernel
theorem dX9_waits_21 : decode cX9_waits 21 = .ok (.if_icmp .ge 61, 3) := by decide +kernel
theorem dX9_waits_24 : decode cX9_waits 24 = .ok (.aload_n 0, 1) := by decide +kernel
theorem dX9_waits_25 : decode cX9_waits 25 = .ok (.iload_n 2, 1) := by decide +kernel
theorem dX9_waits_26 : decode cX9_waits 26 = .ok (.bipush 8, 2) := by decide +kernel
theorem dX9_waits_28 : decode cX9_waits 28 = .ok (.iconst 2, 1) := by decide +kernel
theorem dX9_waits_29 : decode cX9_waits 29 = .ok (.iload 4, 2) := by decide +kernel
theorem dX9_waits_31 : decode cX9_waits 31 = .ok (.imul, 1) := by decide +kernel
theorem dX9_waits_32 : decode cX9_waits 32 = .ok (.iadd, 1) := by decide +kernel
theorem dX9_waits_33 : decode cX9_waits 33 = .ok (.invokevirtual 199, 3) := by decide +kernel
theorem dX9_waits_36 : decode cX9_waits 36 = .ok (.istore 5, 2) := by decide +kernel
theorem dX9_waits_38 : decode cX9_waits 38 = .ok (.aload_n 0, 1) := by decide +kernel
theorem dX9_waits_39 : decode cX9_waits 39 = .ok (.iload_n 2, 1) := by decide +kernel
theorem dX9_waits_40 : decode cX9_waits 40 = .ok (.bipush 7, 2) := by decide +kernel
theorem dX9_waits_42 : decode cX9_waits 42 = .ok (.iconst 2, 1) := by decide +kernel
theorem dX9_waits_43 : decode cX9_waits 43 = .ok (.iload 4, 2) := by decide +kernel
theorem dX9_waits_45 : decode cX9_waits 45 = .ok (.imul, 1) := by decide +kernel
theorem dX9_waits_46 : decode cX9_waits 46 = .ok (.iadd, 1) := by decide +kernel
theorem dX9_waits_47 : decode cX9_waits 47 = .ok (.invokevirtual 199, 3) := by decide +kernel
theorem dX9_waits_50 : decode cX9_waits 50 = .ok (.ifCond .le 26, 3) := by decide +kernel
theorem dX9_waits_53 : decode cX9_waits 53 = .ok (.aload_n 0, 1) := by decide +kernel
theorem dX9_waits_54 : decode cX9_waits 54 = .ok (.iload 5, 2) := by decide +kernel
theorem dX9_waits_56 : decode cX9_waits 56 = .ok (.aload_n 0, 1) := by decide +kernel
theorem dX9_waits_57 : decode cX9_waits 57 = .ok (.iload_n 1, 1) := by decide +kernel
theorem dX9_waits_58 : decode cX9_waits 58 = .ok (.iconst 4, 1) := by decide +kernel
theorem dX9_waits_59 : decode cX9_waits 59 = .ok (.invokevirtual 160, 3) := by decide +kernel
theorem dX9_waits_62 : decode cX9_waits 62 = .ok (.invokevirtual 156, 3) := by decide +kernel
theorem dX9_waits_65 : decode cX9_waits 65 = .ok (.iconst 2, 1) := by decide +kernel
theorem dX9_waits_66 : decode cX9_waits 66 = .ok (.if_icmp .eq 10, 3) := by decide +kernel
theorem dX9_waits_69 : decode cX9_waits 69 = .ok (.iload_n 3, 1) := by decide +kernel
theorem dX9_waits_70 : decode cX9_waits 70 = .ok (.iconst 1, 1) := by decide +kernel
theorem dX9_waits_71 : decode cX9_waits 71 = .ok (.iload 5, 2) := by decide +kernel
theorem dX9_waits_73 : decode cX9_waits 73 = .ok (.ishl, 1) := by decide +kernel
theorem dX9_waits_74 : decode cX9_waits 74 = .ok (.ior, 1) := by decide +kernel
theorem dX9_waits_75 : decode cX9_waits 75 = .ok (.istore_n 3, 1) := by decide +kernel
theorem dX9_waits_76 : decode cX9_waits 76 = .ok (.iinc 4 1, 3) := by decide +kernel
theorem dX9_waits_79 : decode cX9_waits 79 = .ok (.goto (-67), 3) := by decide +kernel
theorem dX9_waits_82 : decode cX9_waits 82 = .ok (.iload_n 3, 1) := by decide +kernel
theorem dX9_waits_83 : decode cX9_waits 83 = .ok (.ireturn, 1) := by decide +kernel
theorem dX9_delivery_0 : decode cX9_delivery 0 = .ok (.aload_n 0, 1) := by decide +kernel
theorem dX9_delivery_1 : decode cX9_delivery 1 = .ok (.iconst 0, 1) := by decide +kernel
theorem dX9_delivery_2 : decode cX9_delivery 2 = .ok (.putfield 1, 3) := by decide +kernel
theorem dX9_delivery_5 : decode cX9_delivery 5 = .ok (.aload_n 0, 1) := by decide +kernel
theorem dX9_delivery_6 : decode cX9_delivery 6 = .ok (.iload_n 1, 1) := by decide +kernel
theorem dX9_delivery_7 : decode cX9_delivery 7 = .ok (.invokevirtual 221, 3) := by decide +kernel
theorem dX9_delivery_10 : decode cX9_delivery 10 = .ok (.ifCond .eq 13, 3) := by decide +kernel
theorem dX9_delivery_13 : decode cX9_delivery 13 = .ok (.iload_n 2, 1) := by decide +kernel
theorem dX9_delivery_14 : decode cX9_delivery 14 = .ok (.iconst 0, 1) := by decide +kernel
theorem dX9_delivery_15 : decode cX9_delivery 15 = .ok (.bipush 8, 2) := by decide +kernel
theorem dX9_delivery_17 : decode cX9_delivery 17 = .ok (.invokestatic 107, 3) := by decide +kernel
theorem dX9_delivery_20 : decode cX9_delivery 20 = .ok (.ifCond .ne 5, 3) := by decide +kernel
theorem dX9_delivery_23 : decode cX9_delivery 23 = .ok (.iconst (-1), 1) := by decide +kernel
theorem dX9_delivery_24 : decode cX9_delivery 24 = .ok (.ireturn, 1) := by decide +kernel
theorem dX9_delivery_25 : decode cX9_delivery 25 = .ok (.iload_n 2, 1) := by decide +kernel
theorem dX9_delivery_26 : decode cX9_delivery 26 = .ok (.bipush 8, 2) := by decide +kernel
theorem dX9_delivery_28 : decode cX9_delivery 28 = .ok (.if_icmp .ne 26, 3) := by decide +kernel
theorem dX9_delivery_31 : decode cX9_delivery 31 = .ok (.aload_n 0, 1) := by decide +kernel
theorem dX9_delivery_32 : decode cX9_delivery 32 = .ok (.iload_n 1, 1) := by decide +kernel
theorem dX9_delivery_33 : decode cX9_delivery 33 = .ok (.bipush 6, 2) := by decide +kernel
theorem dX9_delivery_35 : decode cX9_delivery 35 = .ok (.invokevirtual 160, 3) := by decide +kernel
theorem dX9_delivery_38 : decode cX9_delivery 38 = .ok (.iconst 1, 1) := by decide +kernel
theorem dX9_delivery_39 : decode cX9_delivery 39 = .ok (.if_icmp .ne 7, 3) := by decide +kernel
theorem dX9_delivery_42 : decode cX9_delivery 42 = .ok (.iconst 0, 1) := by decide +kernel
theorem dX9_delivery_43 : decode cX9_delivery 43 = .ok (.goto 17, 3) := by decide +kernel
theorem dX9_delivery_46 : decode cX9_delivery 46 = .ok (.aload_n 0, 1) := by decide +kernel
theorem dX9_delivery_47 : decode cX9_delivery 47 = .ok (.iload_n 1, 1) := by decide +kernel
theorem dX9_delivery_48 : decode cX9_delivery 48 = .ok (.invokevirtual 224, 3) := by decide +kernel
theorem dX9_delivery_51 : decode cX9_delivery 51 = .ok (.goto 9, 3) := by decide +kernel
theorem dX9_delivery_54 : decode cX9_delivery 54 = .ok (.aload_n 0, 1) := by decide +kernel
theorem dX9_delivery_55 : decode cX9_delivery 55 = .ok (.iload_n 1, 1) := by decide +kernel
theorem dX9_delivery_56 : decode cX9_delivery 56 = .ok (.iload_n 2, 1) := by decide +kernel
theorem dX9_delivery_57 : decode cX9_delivery 57 = .ok (.invokevirtual 160, 3) := by decide +kernel
theorem dX9_delivery_60 : decode cX9_delivery 60 = .ok (.ireturn, 1) := by decide +kernel
theorem dX9_billed_0 : decode cX9_billed 0 = .ok (.aload_n 0, 1) := by decide +kernel
theorem dX9_billed_1 : decode cX9_billed 1 = .ok (.iload_n 1, 1) := by decide +kernel
theorem dX9_billed_2 : decode cX9_billed 2 = .ok (.iconst 3, 1) := by decide +kernel
theorem dX9_billed_3 : decode cX9_billed 3 = .ok (.invokevirtual 160, 3) := by decide +kernel
theorem dX9_billed_6 : decode cX9_billed 6 = .ok (.i2l, 1) := by decide +kernel
theorem dX9_billed_7 : decode cX9_billed 7 = .ok (.aload_n 0, 1) := by decide +kernel
theorem dX9_billed_8 : decode cX9_billed 8 = .ok (.iload_n 1, 1) := by decide +kernel
theorem dX9_billed_9 : decode cX9_billed 9 = .ok (.iconst 5, 1) := by decide +kernel
theorem dX9_billed_10 : decode cX9_billed 10 = .ok (.invokevirtual 160, 3) := by decide +kernel
theorem dX9_billed_13 : decode cX9_billed 13 = .ok (.i2l, 1) := by decide +kernel
theorem dX9_billed_14 : decode cX9_billed 14 = .ok (.lmul, 1) := by decide +kernel
theorem dX9_billed_15 : decode cX9_billed 15 = .ok (.lreturn, 1) := by decide +kernel
theorem dX9_amount_0 : decode cX9_amount 0 = .ok (.aload_n 0, 1) := by decide +kernel
theorem dX9_amount_1 : decode cX9_amount 1 = .ok (.iconst 0, 1) := by decide +kernel
theorem dX9_amount_2 : decode cX9_amount 2 = .ok (.putfield 1, 3) := by decide +kernel
theorem dX9_amount_5 : decode cX9_amount 5 = .ok (.aload_n 0, 1) := by decide +kernel
theorem dX9_amount_6 : decode cX9_amount 6 = .ok (.iload_n 1, 1) := by decide +kernel
theorem dX9_amount_7 : decode cX9_amount 7 = .ok (.invokevirtual 221, 3) := by decide +kernel
theorem dX9_amount_10 : decode cX9_amount 10 = .ok (.ifCond .eq 12, 3) := by decide +kernel
theorem dX9_amount_13 : decode cX9_amount 13 = .ok (.iload_n 2, 1) := by decide +kernel
theorem dX9_amount_14 : decode cX9_amount 14 = .ok (.iconst 0, 1) := by decide +kernel
theorem dX9_amount_15 : decode cX9_amount 15 = .ok (.iconst 2, 1) := by decide +kernel
theorem dX9_amount_16 : decode cX9_amount 16 = .ok (.invokestatic 107, 3) := by decide +kernel
theorem dX9_amount_19 : decode cX9_amount 19 = .ok (.ifCond .ne 9, 3) := by decide +kernel
theorem dX9_amount_22 : decode cX9_amount 22 = .ok (.aload_n 0, 1) := by decide +kernel
theorem dX9_amount_23 : decode cX9_amount 23 = .ok (.invokevirtual 190, 3) := by decide +kernel
theorem dX9_amount_26 : decode cX9_amount 26 = .ok (.i2l, 1) := by decide +kernel
theorem dX9_amount_27 : decode cX9_amount 27 = .ok (.lreturn, 1) := by decide +kernel
theorem dX9_amount_28 : decode cX9_amount 28 = .ok (.iload_n 2, 1) := by decide +kernel
theorem dX9_amount_29 : decode cX9_amount 29 = .ok (.ifCond .ne 11, 3) := by decide +kernel
theorem dX9_amount_32 : decode cX9_amount 32 = .ok (.aload_n 0, 1) := by decide +kernel
theorem dX9_amount_33 : decode cX9_amount 33 = .ok (.iload_n 1, 1) := by decide +kernel
theorem dX9_amount_34 : decode cX9_amount 34 = .ok (.invokevirtual 227, 3) := by decide +kernel
theorem dX9_amount_37 : decode cX9_amount 37 = .ok (.goto 33, 3) := by decide +kernel
theorem dX9_amount_40 : decode cX9_amount 40 = .ok (.iload_n 2, 1) := by decide +kernel
theorem dX9_amount_41 : decode cX9_amount 41 = .ok (.iconst 1, 1) := by decide +kernel
theorem dX9_amount_42 : decode cX9_amount 42 = .ok (.if_icmp .ne 14, 3) := by decide +kernel
theorem dX9_amount_45 : decode cX9_amount 45 = .ok (.aload_n 0, 1) := by decide +kernel
theorem dX9_amount_46 : decode cX9_amount 46 = .ok (.iload_n 1, 1) := by decide +kernel
theorem dX9_amount_47 : decode cX9_amount 47 = .ok (.bipush 8, 2) := by decide +kernel
theorem dX9_amount_49 : decode cX9_amount 49 = .ok (.invokevirtual 160, 3) := by decide +kernel
theorem dX9_amount_52 : decode cX9_amount 52 = .ok (.i2l, 1) := by decide +kernel
theorem dX9_amount_53 : decode cX9_amount 53 = .ok (.goto 17, 3) := by decide +kernel
theorem dX9_amount_56 : decode cX9_amount 56 = .ok (.aload_n 0, 1) := by decide +kernel
theorem dX9_amount_57 : decode cX9_amount 57 = .ok (.iload_n 1, 1) := by decide +kernel
theorem dX9_amount_58 : decode cX9_amount 58 = .ok (.invokevirtual 227, 3) := by decide +kernel
theorem dX9_amount_61 : decode cX9_amount 61 = .ok (.aload_n 0, 1) := by decide +kernel
theorem dX9_amount_62 : decode cX9_amount 62 = .ok (.iload_n 1, 1) := by decide +kernel
theorem dX9_amount_63 : decode cX9_amount 63 = .ok (.bipush 8, 2) := by decide +kernel
theorem dX9_amount_65 : decode cX9_amount 65 = .ok (.invokevirtual 160, 3) := by decide +kernel
theorem dX9_amount_68 : decode cX9_amount 68 = .ok (.i2l, 1) := by decide +kernel
theorem dX9_amount_69 : decode cX9_amount 69 = .ok (.ladd, 1) := by decide +kernel
theorem dX9_amount_70 : decode cX9_amount 70 = .ok (.lreturn, 1) := by decide +kernel
theorem dX9_statement_0 : decode cX9_statement 0 = .ok (.aload_n 0, 1) := by decide +kernel
theorem dX9_statement_1 : decode cX9_statement 1 = .ok (.iconst 0, 1) := by decide +kernel
theorem dX9_statement_2 : decode cX9_statement 2 = .ok (.putfield 1, 3) := by decide +kernel
theorem dX9_statement_5 : decode cX9_statement 5 = .ok (.iload_n 1, 1) := by decide +kernel
theorem dX9_statement_6 : decode cX9_statement 6 = .ok (.invokestatic 172, 3) := by decide +kernel
theorem dX9_statement_9 : decode cX9_statement 9 = .ok (.ifCond .eq 12, 3) := by decide +kernel
theorem dX9_statement_12 : decode cX9_statement 12 = .ok (.iload_n 2, 1) := by decide +kernel
theorem dX9_statement_13 : decode cX9_statement 13 = .ok (.iconst 0, 1) := by decide +kernel
theorem dX9_statement_14 : decode cX9_statement 14 = .ok (.iconst 3, 1) := by decide +kernel
theorem dX9_statement_15 : decode cX9_statement 15 = .ok (.invokestatic 107, 3) := by decide +kernel
theorem dX9_statement_18 : decode cX9_statement 18 = .ok (.ifCond .ne 9, 3) := by decide +kernel
theorem dX9_statement_21 : decode cX9_statement 21 = .ok (.aload_n 0, 1) := by decide +kernel
theorem dX9_statement_22 : decode cX9_statement 22 = .ok (.invokevirtual 190, 3) := by decide +kernel
theorem dX9_statement_25 : decode cX9_statement 25 = .ok (.i2l, 1) := by decide +kernel
theorem dX9_statement_26 : decode cX9_statement 26 = .ok (.lreturn, 1) := by decide +kernel
theorem dX9_statement_27 : decode cX9_statement 27 = .ok (.lconst 0, 1) := by decide +kernel
theorem dX9_statement_28 : decode cX9_statement 28 = .ok (.lstore_n 3, 1) := by decide +kernel
theorem dX9_statement_29 : decode cX9_statement 29 = .ok (.iconst 0, 1) := by decide +kernel
theorem dX9_statement_30 : decode cX9_statement 30 = .ok (.istore 5, 2) := by decide +kernel
theorem dX9_statement_32 : decode cX9_statement 32 = .ok (.iload 5, 2) := by decide +kernel
theorem dX9_statement_34 : decode cX9_statement 34 = .ok (.aload_n 0, 1) := by decide +kernel
theorem dX9_statement_35 : decode cX9_statement 35 = .ok (.getfield 91, 3) := by decide +kernel
theorem dX9_statement_38 : decode cX9_statement 38 = .ok (.sipush 609, 3) := by decide +kernel
theorem dX9_statement_41 : decode cX9_statement 41 = .ok (.iaload, 1) := by decide +kernel
theorem dX9_statement_42 : decode cX9_statement 42 = .ok (.if_icmp .ge 142, 3) := by decide +kernel
theorem dX9_statement_45 : decode cX9_statement 45 = .ok (.iload_n 2, 1) := by decide +kernel
theorem dX9_statement_46 : decode cX9_statement 46 = .ok (.iconst 3, 1) := by decide +kernel
theorem dX9_statement_47 : decode cX9_statement 47 = .ok (.if_icmp .ne 22, 3) := by decide +kernel
theorem dX9_statement_50 : decode cX9_statement 50 = .ok (.aload_n 0, 1) := by decide +kernel
theorem dX9_statement_51 : decode cX9_statement 51 = .ok (.iload 5, 2) := by decide +kernel
theorem dX9_statement_53 : decode cX9_statement 53 = .ok (.iconst 2, 1) := by decide +kernel
theorem dX9_statement_54 : decode cX9_statement 54 = .ok (.invokevirtual 160, 3) := by decide +kernel
theorem dX9_statement_57 : decode cX9_statement 57 = .ok (.iload_n 1, 1) := by decide +kernel
theorem dX9_statement_58 : decode cX9_statement 58 = .ok (.if_icmp .gt 7, 3) := by decide +kernel
theorem dX9_statement_61 : decode cX9_statement 61 = .ok (.iconst 1, 1) := by decide +kernel
theorem dX9_statement_62 : decode cX9_statement 62 = .ok (.goto 23, 3) := by decide +kernel
theorem dX9_statement_65 : decode cX9_statement 65 = .ok (.iconst 0, 1) := by decide +kernel
theorem dX9_statement_66 : decode cX9_statement 66 = .ok (.goto 19, 3) := by decide +kernel
theorem dX9_statement_69 : decode cX9_statement 69 = .ok (.aload_n 0, 1) := by decide +kernel
theorem dX9_statement_70 : decode cX9_statement 70 = .ok (.iload 5, 2) := by decide +kernel
theorem dX9_statement_72 : decode cX9_statement 72 = .ok (.iconst 2, 1) := by decide +kernel
theorem dX9_statement_73 : decode cX9_statement 73 = .ok (.invokevirtual 160, 3) := by decide +kernel
theorem dX9_statement_76 : decode cX9_statement 76 = .ok (.iload_n 1, 1) := by decide +kernel
theorem dX9_statement_77 : decode cX9_statement 77 = .ok (.if_icmp .ne 7, 3) := by decide +kernel
theorem dX9_statement_80 : decode cX9_statement 80 = .ok (.iconst 1, 1) := by decide +kernel
theorem dX9_statement_81 : decode cX9_statement 81 = .ok (.goto 4, 3) := by decide +kernel
theorem dX9_statement_84 : decode cX9_statement 84 = .ok (.iconst 0, 1) := by decide +kernel
theorem dX9_statement_85 : decode cX9_statement 85 = .ok (.istore 6, 2) := by decide +kernel
theorem dX9_statement_87 : decode cX9_statement 87 = .ok (.aload_n 0, 1) := by decide +kernel
theorem dX9_statement_88 : decode cX9_statement 88 = .ok (.iload 5, 2) := by decide +kernel
theorem dX9_statement_90 : decode cX9_statement 90 = .ok (.bipush 6, 2) := by decide +kernel
theorem dX9_statement_92 : decode cX9_statement 92 = .ok (.invokevirtual 160, 3) := by decide +kernel
theorem dX9_statement_95 : decode cX9_statement 95 = .ok (.iconst 1, 1) := by decide +kernel
theorem dX9_statement_96 : decode cX9_statement 96 = .ok (.if_icmp .ne 39, 3) := by decide +kernel
theorem dX9_statement_99 : decode cX9_statement 99 = .ok (.iload_n 2, 1) := by decide +kernel
theorem dX9_statement_100 : decode cX9_statement 100 = .ok (.iconst 3, 1) := by decide +kernel
theorem dX9_statement_101 : decode cX9_statement 101 = .ok (.if_icmp .ne 18, 3) := by decide +kernel
theorem dX9_statement_104 : decode cX9_statement 104 = .ok (.aload_n 0, 1) := by decide +kernel
theorem dX9_statement_105 : decode cX9_statement 105 = .ok (.iload 5, 2) := by decide +kernel
theorem dX9_statement_107 : decode cX9_statement 107 = .ok (.bipush 7, 2) := by decide +kernel
theorem dX9_statement_109 : decode cX9_statement 109 = .ok (.invokevirtual 160, 3) := by decide +kernel
theorem dX9_statement_112 : decode cX9_statement 112 = .ok (.iload_n 1, 1) := by decide +kernel
theorem dX9_statement_113 : decode cX9_statement 113 = .ok (.if_icmp .gt 22, 3) := by decide +kernel
theorem dX9_statement_116 : decode cX9_statement 116 = .ok (.goto 15, 3) := by decide +kernel
theorem dX9_statement_119 : decode cX9_statement 119 = .ok (.aload_n 0, 1) := by decide +kernel
theorem dX9_statement_120 : decode cX9_statement 120 = .ok (.iload 5, 2) := by decide +kernel
theorem dX9_statement_122 : decode cX9_statement 122 = .ok (.bipush 7, 2) := by decide +kernel
theorem dX9_statement_124 : decode cX9_statement 124 = .ok (.invokevirtual 160, 3) := by decide +kernel
theorem dX9_statement_127 : decode cX9_statement 127 = .ok (.iload_n 1, 1) := by decide +kernel
theorem dX9_statement_128 : decode cX9_statement 128 = .ok (.if_icmp .ne 7, 3) := by decide +kernel
theorem dX9_statement_131 : decode cX9_statement 131 = .ok (.iconst 1, 1) := by decide +kernel
theorem dX9_statement_132 : decode cX9_statement 132 = .ok (.goto 4, 3) := by decide +kernel
theorem dX9_statement_135 : decode cX9_statement 135 = .ok (.iconst 0, 1) := by decide +kernel
theorem dX9_statement_136 : decode cX9_statement 136 = .ok (.istore 7, 2) := by decide +kernel
theorem dX9_statement_138 : decode cX9_statement 138 = .ok (.iload 6, 2) := by decide +kernel
theorem dX9_statement_140 : decode cX9_statement 140 = .ok (.ifCond .eq 17, 3) := by decide +kernel
theorem dX9_statement_143 : decode cX9_statement 143 = .ok (.iload_n 2, 1) := by decide +kernel
theorem dX9_statement_144 : decode cX9_statement 144 = .ok (.iconst 1, 1) := by decide +kernel
theorem dX9_statement_145 : decode cX9_statement 145 = .ok (.if_icmp .eq 12, 3) := by decide +kernel
theorem dX9_statement_148 : decode cX9_statement 148 = .ok (.lload_n 3, 1) := by decide +kernel
theorem dX9_statement_149 : decode cX9_statement 149 = .ok (.aload_n 0, 1) := by decide +kernel
theorem dX9_statement_150 : decode cX9_statement 150 = .ok (.iload 5, 2) := by decide +kernel
theorem dX9_statement_152 : decode cX9_statement 152 = .ok (.invokevirtual 227, 3) := by decide +kernel
theorem dX9_statement_155 : decode cX9_statement 155 = .ok (.ladd, 1) := by decide +kernel
theorem dX9_statement_156 : decode cX9_statement 156 = .ok (.lstore_n 3, 1) := by decide +kernel
theorem dX9_statement_157 : decode cX9_statement 157 = .ok (.iload 7, 2) := by decide +kernel
theorem dX9_statement_159 : decode cX9_statement 159 = .ok (.ifCond .eq 19, 3) := by decide +kernel
theorem dX9_statement_162 : decode cX9_statement 162 = .ok (.iload_n 2, 1) := by decide +kernel
theorem dX9_statement_163 : decode cX9_statement 163 = .ok (.ifCond .eq 15, 3) := by decide +kernel
theorem dX9_statement_166 : decode cX9_statement 166 = .ok (.lload_n 3, 1) := by decide +kernel
theorem dX9_statement_167 : decode cX9_statement 167 = .ok (.aload_n 0, 1) := by decide +kernel
theorem dX9_statement_168 : decode cX9_statement 168 = .ok (.iload 5, 2) := by decide +kernel
theorem dX9_statement_170 : decode cX9_statement 170 = .ok (.bipush 8, 2) := by decide +kernel
theorem dX9_statement_172 : decode cX9_statement 172 = .ok (.invokevirtual 160, 3) := by decide +kernel
theorem dX9_statement_175 : decode cX9_statement 175 = .ok (.i2l, 1) := by decide +kernel
theorem dX9_statement_176 : decode cX9_statement 176 = .ok (.ladd, 1) := by decide +kernel
theorem dX9_statement_177 : decode cX9_statement 177 = .ok (.lstore_n 3, 1) := by decide +kernel
theorem dX9_statement_178 : decode cX9_statement 178 = .ok (.iinc 5 1, 3) := by decide +kernel
theorem dX9_statement_181 : decode cX9_statement 181 = .ok (.goto (-149), 3) := by decide +kernel
theorem dX9_statement_184 : decode cX9_statement 184 = .ok (.lload_n 3, 1) := by decide +kernel
theorem dX9_statement_185 : decode cX9_statement 185 = .ok (.lreturn, 1) := by decide +kernel
theorem dX9_snap_0 : decode cX9_snap 0 = .ok (.aload_n 0, 1) := by decide +kernel
theorem dX9_snap_1 : decode cX9_snap 1 = .ok (.getfield 153, 3) := by decide +kernel
theorem dX9_snap_4 : decode cX9_snap 4 = .ok (.bipush 8, 2) := by decide +kernel
theorem dX9_snap_6 : decode cX9_snap 6 = .ok (.if_icmp .ne 44, 3) := by decide +kernel
theorem dX9_snap_9 : decode cX9_snap 9 = .ok (.iconst 0, 1) := by decide +kernel
theorem dX9_snap_10 : decode cX9_snap 10 = .ok (.istore_n 1, 1) := by decide +kernel
theorem dX9_snap_11 : decode cX9_snap 11 = .ok (.iload_n 1, 1) := by decide +kernel
theorem dX9_snap_12 : decode cX9_snap 12 = .ok (.sipush 6160, 3) := by decide +kernel
theorem dX9_snap_15 : decode cX9_snap 15 = .ok (.if_icmp .ge 25, 3) := by decide +kernel
theorem dX9_snap_18 : decode cX9_snap 18 = .ok (.aload_n 0, 1) := by decide +kernel
theorem dX9_snap_19 : decode cX9_snap 19 = .ok (.getfield 97, 3) := by decide +kernel
theorem dX9_snap_22 : decode cX9_snap 22 = .ok (.iload_n 1, 1) := by decide +kernel
theorem dX9_snap_23 : decode cX9_snap 23 = .ok (.aload_n 0, 1) := by decide +kernel
theorem dX9_snap_24 : decode cX9_snap 24 = .ok (.getfield 97, 3) := by decide +kernel
theorem dX9_snap_27 : decode cX9_snap 27 = .ok (.iload_n 1, 1) := by decide +kernel
theorem dX9_snap_28 : decode cX9_snap 28 = .ok (.sipush 880, 3) := by decide +kernel
theorem dX9_snap_31 : decode cX9_snap 31 = .ok (.iadd, 1) := by decide +kernel
theorem dX9_snap_32 : decode cX9_snap 32 = .ok (.iaload, 1) := by decide +kernel
theorem dX9_snap_33 : decode cX9_snap 33 = .ok (.iastore, 1) := by decide +kernel
theorem dX9_snap_34 : decode cX9_snap 34 = .ok (.iinc 1 1, 3) := by decide +kernel
theorem dX9_snap_37 : decode cX9_snap 37 = .ok (.goto (-26), 3) := by decide +kernel
theorem dX9_snap_40 : decode cX9_snap 40 = .ok (.aload_n 0, 1) := by decide +kernel
theorem dX9_snap_41 : decode cX9_snap 41 = .ok (.dup, 1) := by decide +kernel
theorem dX9_snap_42 : decode cX9_snap 42 = .ok (.getfield 153, 3) := by decide +kernel
theorem dX9_snap_45 : decode cX9_snap 45 = .ok (.iconst 1, 1) := by decide +kernel
theorem dX9_snap_46 : decode cX9_snap 46 = .ok (.isub, 1) := by decide +kernel
theorem dX9_snap_47 : decode cX9_snap 47 = .ok (.putfield 153, 3) := by decide +kernel
theorem dX9_snap_50 : decode cX9_snap 50 = .ok (.iconst 0, 1) := by decide +kernel
theorem dX9_snap_51 : decode cX9_snap 51 = .ok (.istore_n 1, 1) := by decide +kernel
theorem dX9_snap_52 : decode cX9_snap 52 = .ok (.iload_n 1, 1) := by decide +kernel
theorem dX9_snap_53 : decode cX9_snap 53 = .ok (.sipush 880, 3) := by decide +kernel
theorem dX9_snap_56 : decode cX9_snap 56 = .ok (.if_icmp .ge 30, 3) := by decide +kernel
theorem dX9_snap_59 : decode cX9_snap 59 = .ok (.aload_n 0, 1) := by decide +kernel
theorem dX9_snap_60 : decode cX9_snap 60 = .ok (.getfield 97, 3) := by decide +kernel
theorem dX9_snap_63 : decode cX9_snap 63 = .ok (.sipush 880, 3) := by decide +kernel
theorem dX9_snap_66 : decode cX9_snap 66 = .ok (.aload_n 0, 1) := by decide +kernel
theorem dX9_snap_67 : decode cX9_snap 67 = .ok (.getfield 153, 3) := by decide +kernel
theorem dX9_snap_70 : decode cX9_snap 70 = .ok (.imul, 1) := by decide +kernel
theorem dX9_snap_71 : decode cX9_snap 71 = .ok (.iload_n 1, 1) := by decide +kernel
theorem dX9_snap_72 : decode cX9_snap 72 = .ok (.iadd, 1) := by decide +kernel
theorem dX9_snap_73 : decode cX9_snap 73 = .ok (.aload_n 0, 1) := by decide +kernel
theorem dX9_snap_74 : decode cX9_snap 74 = .ok (.getfield 91, 3) := by decide +kernel
theorem dX9_snap_77 : decode cX9_snap 77 = .ok (.iload_n 1, 1) := by decide +kernel
theorem dX9_snap_78 : decode cX9_snap 78 = .ok (.iaload, 1) := by decide +kernel
theorem dX9_snap_79 : decode cX9_snap 79 = .ok (.iastore, 1) := by decide +kernel
theorem dX9_snap_80 : decode cX9_snap 80 = .ok (.iinc 1 1, 3) := by decide +kernel
theorem dX9_snap_83 : decode cX9_snap 83 = .ok (.goto (-31), 3) := by decide +kernel
theorem dX9_snap_86 : decode cX9_snap 86 = .ok (.aload_n 0, 1) := by decide +kernel
theorem dX9_snap_87 : decode cX9_snap 87 = .ok (.dup, 1) := by decide +kernel
theorem dX9_snap_88 : decode cX9_snap 88 = .ok (.getfield 153, 3) := by decide +kernel
theorem dX9_snap_91 : decode cX9_snap 91 = .ok (.iconst 1, 1) := by decide +kernel
theorem dX9_snap_92 : decode cX9_snap 92 = .ok (.iadd, 1) := by decide +kernel
theorem dX9_snap_93 : decode cX9_snap 93 = .ok (.putfield 153, 3) := by decide +kernel
theorem dX9_snap_96 : decode cX9_snap 96 = .ok (.return_, 1) := by decide +kernel
theorem dX9_lastBase_0 : decode cX9_lastBase 0 = .ok (.aload_n 0, 1) := by decide +kernel
theorem dX9_lastBase_1 : decode cX9_lastBase 1 = .ok (.getfield 91, 3) := by decide +kernel
theorem dX9_lastBase_4 : decode cX9_lastBase 4 = .ok (.sipush 434, 3) := by decide +kernel
theorem dX9_lastBase_7 : decode cX9_lastBase 7 = .ok (.bipush 10, 2) := by decide +kernel
theorem dX9_lastBase_9 : decode cX9_lastBase 9 = .ok (.iload_n 1, 1) := by decide +kernel
theorem dX9_lastBase_10 : decode cX9_lastBase 10 = .ok (.imul, 1) := by decide +kernel
theorem dX9_lastBase_11 : decode cX9_lastBase 11 = .ok (.iadd, 1) := by decide +kernel
theorem dX9_lastBase_12 : decode cX9_lastBase 12 = .ok (.iaload, 1) := by decide +kernel
theorem dX9_lastBase_13 : decode cX9_lastBase 13 = .ok (.ifCond .ne 7, 3) := by decide +kernel
theorem dX9_lastBase_16 : decode cX9_lastBase 16 = .ok (.iconst (-1), 1) := by decide +kernel
theorem dX9_lastBase_17 : decode cX9_lastBase 17 = .ok (.goto 24, 3) := by decide +kernel
theorem dX9_lastBase_20 : decode cX9_lastBase 20 = .ok (.aload_n 0, 1) := by decide +kernel
theorem dX9_lastBase_21 : decode cX9_lastBase 21 = .ok (.iload_n 1, 1) := by decide +kernel
theorem dX9_lastBase_22 : decode cX9_lastBase 22 = .ok (.aload_n 0, 1) := by decide +kernel
theorem dX9_lastBase_23 : decode cX9_lastBase 23 = .ok (.getfield 91, 3) := by decide +kernel
theorem dX9_lastBase_26 : decode cX9_lastBase 26 = .ok (.sipush 434, 3) := by decide +kernel
theorem dX9_lastBase_29 : decode cX9_lastBase 29 = .ok (.bipush 10, 2) := by decide +kernel
theorem dX9_lastBase_31 : decode cX9_lastBase 31 = .ok (.iload_n 1, 1) := by decide +kernel
theorem dX9_lastBase_32 : decode cX9_lastBase 32 = .ok (.imul, 1) := by decide +kernel
theorem dX9_lastBase_33 : decode cX9_lastBase 33 = .ok (.iadd, 1) := by decide +kernel
theorem dX9_lastBase_34 : decode cX9_lastBase 34 = .ok (.iaload, 1) := by decide +kernel
theorem dX9_lastBase_35 : decode cX9_lastBase 35 = .ok (.iconst 1, 1) := by decide +kernel
theorem dX9_lastBase_36 : decode cX9_lastBase 36 = .ok (.isub, 1) := by decide +kernel
theorem dX9_lastBase_37 : decode cX9_lastBase 37 = .ok (.iconst 0, 1) := by decide +kernel
theorem dX9_lastBase_38 : decode cX9_lastBase 38 = .ok (.invokevirtual 181, 3) := by decide +kernel
theorem dX9_lastBase_41 : decode cX9_lastBase 41 = .ok (.ireturn, 1) := by decide +kernel
theorem dX9_publish_0 : decode cX9_publish 0 = .ok (.aload_n 0, 1) := by decide +kernel
theorem dX9_publish_1 : decode cX9_publish 1 = .ok (.iconst 0, 1) := by decide +kernel
theorem dX9_publish_2 : decode cX9_publish 2 = .ok (.putfield 1, 3) := by decide +kernel
theorem dX9_publish_5 : decode cX9_publish 5 = .ok (.aload_n 0, 1) := by decide +kernel
theorem dX9_publish_6 : decode cX9_publish 6 = .ok (.iload_n 1, 1) := by decide +kernel
theorem dX9_publish_7 : decode cX9_publish 7 = .ok (.invokevirtual 169, 3) := by decide +kernel
theorem dX9_publish_10 : decode cX9_publish 10 = .ok (.ifCond .eq 26, 3) := by decide +kernel
theorem dX9_publish_13 : decode cX9_publish 13 = .ok (.iload_n 2, 1) := by decide +kernel
theorem dX9_publish_14 : decode cX9_publish 14 = .ok (.iconst 0, 1) := by decide +kernel
theorem dX9_publish_15 : decode cX9_publish 15 = .ok (.aload_n 0, 1) := by decide +kernel
theorem dX9_publish_16 : decode cX9_publish 16 = .ok (.invokevirtual 163, 3) := by decide +kernel
theorem dX9_publish_19 : decode cX9_publish 19 = .ok (.invokestatic 107, 3) := by decide +kernel
theorem dX9_publish_22 : decode cX9_publish 22 = .ok (.ifCond .eq 14, 3) := by decide +kernel
theorem dX9_publish_25 : decode cX9_publish 25 = .ok (.iload_n 3, 1) := by decide +kernel
theorem dX9_publish_26 : decode cX9_publish 26 = .ok (.iconst 1, 1) := by decide +kernel
theorem dX9_publish_27 : decode cX9_publish 27 = .ok (.sipush 999, 3) := by decide +kernel
theorem dX9_publish_30 : decode cX9_publish 30 = .ok (.invokestatic 107, 3) := by decide +kernel
theorem dX9_publish_33 : decode cX9_publish 33 = .ok (.ifCond .ne 5, 3) := by decide +kernel
theorem dX9_publish_36 : decode cX9_publish 36 = .ok (.iconst (-1), 1) := by decide +kernel
theorem dX9_publish_37 : decode cX9_publish 37 = .ok (.ireturn, 1) := by decide +kernel
theorem dX9_publish_38 : decode cX9_publish 38 = .ok (.aload_n 0, 1) := by decide +kernel
theorem dX9_publish_39 : decode cX9_publish 39 = .ok (.iload_n 1, 1) := by decide +kernel
theorem dX9_publish_40 : decode cX9_publish 40 = .ok (.iload_n 2, 1) := by decide +kernel
theorem dX9_publish_41 : decode cX9_publish 41 = .ok (.invokevirtual 156, 3) := by decide +kernel
theorem dX9_publish_44 : decode cX9_publish 44 = .ok (.iconst 2, 1) := by decide +kernel
theorem dX9_publish_45 : decode cX9_publish 45 = .ok (.if_icmp .ne 6, 3) := by decide +kernel
theorem dX9_publish_48 : decode cX9_publish 48 = .ok (.bipush (-2), 2) := by decide +kernel
theorem dX9_publish_50 : decode cX9_publish 50 = .ok (.ireturn, 1) := by decide +kernel
theorem dX9_publish_51 : decode cX9_publish 51 = .ok (.iload_n 2, 1) := by decide +kernel
theorem dX9_publish_52 : decode cX9_publish 52 = .ok (.aload_n 0, 1) := by decide +kernel
theorem dX9_publish_53 : decode cX9_publish 53 = .ok (.iload_n 1, 1) := by decide +kernel
theorem dX9_publish_54 : decode cX9_publish 54 = .ok (.invokevirtual 230, 3) := by decide +kernel
theorem dX9_publish_57 : decode cX9_publish 57 = .ok (.if_icmp .gt 6, 3) := by decide +kernel
theorem dX9_publish_60 : decode cX9_publish 60 = .ok (.bipush (-3), 2) := by decide +kernel
theorem dX9_publish_62 : decode cX9_publish 62 = .ok (.ireturn, 1) := by decide +kernel
theorem dX9_publish_63 : decode cX9_publish 63 = .ok (.aload_n 0, 1) := by decide +kernel
theorem dX9_publish_64 : decode cX9_publish 64 = .ok (.invokevirtual 233, 3) := by decide +kernel
theorem dX9_publish_67 : decode cX9_publish 67 = .ok (.aload_n 0, 1) := by decide +kernel
theorem dX9_publish_68 : decode cX9_publish 68 = .ok (.iload_n 1, 1) := by decide +kernel
theorem dX9_publish_69 : decode cX9_publish 69 = .ok (.iload_n 2, 1) := by decide +kernel
theorem dX9_publish_70 : decode cX9_publish 70 = .ok (.invokevirtual 156, 3) := by decide +kernel
theorem dX9_publish_73 : decode cX9_publish 73 = .ok (.ifCond .ne 7, 3) := by decide +kernel
theorem dX9_publish_76 : decode cX9_publish 76 = .ok (.iconst 0, 1) := by decide +kernel
theorem dX9_publish_77 : decode cX9_publish 77 = .ok (.goto 9, 3) := by decide +kernel
theorem dX9_publish_80 : decode cX9_publish 80 = .ok (.aload_n 0, 1) := by decide +kernel
theorem dX9_publish_81 : decode cX9_publish 81 = .ok (.iload_n 1, 1) := by decide +kernel
theorem dX9_publish_82 : decode cX9_publish 82 = .ok (.iload_n 2, 1) := by decide +kernel
theorem dX9_publish_83 : decode cX9_publish 83 = .ok (.invokevirtual 178, 3) := by decide +kernel
theorem dX9_publish_86 : decode cX9_publish 86 = .ok (.istore 5, 2) := by decide +kernel
theorem dX9_publish_88 : decode cX9_publish 88 = .ok (.aload_n 0, 1) := by decide +kernel
theorem dX9_publish_89 : decode cX9_publish 89 = .ok (.getfield 91, 3) := by decide +kernel
theorem dX9_publish_92 : decode cX9_publish 92 = .ok (.iconst 2, 1) := by decide +kernel
theorem dX9_publish_93 : decode cX9_publish 93 = .ok (.bipush 36, 2) := by decide +kernel
theorem dX9_publish_95 : decode cX9_publish 95 = .ok (.iload_n 1, 1) := by decide +kernel
theorem dX9_publish_96 : decode cX9_publish 96 = .ok (.imul, 1) := by decide +kernel
theorem dX9_publish_97 : decode cX9_publish 97 = .ok (.iadd, 1) := by decide +kernel
theorem dX9_publish_98 : decode cX9_publish 98 = .ok (.iload_n 2, 1) := by decide +kernel
theorem dX9_publish_99 : decode cX9_publish 99 = .ok (.iadd, 1) := by decide +kernel
theorem dX9_publish_100 : decode cX9_publish 100 = .ok (.iload_n 3, 1) := by decide +kernel
theorem dX9_publish_101 : decode cX9_publish 101 = .ok (.iastore, 1) := by decide +kernel
theorem dX9_publish_102 : decode cX9_publish 102 = .ok (.aload_n 0, 1) := by decide +kernel
theorem dX9_publish_103 : decode cX9_publish 103 = .ok (.getfield 91, 3) := by decide +kernel
theorem dX9_publish_106 : decode cX9_publish 106 = .ok (.sipush 218, 3) := by decide +kernel
theorem dX9_publish_109 : decode cX9_publish 109 = .ok (.bipush 36, 2) := by decide +kernel
theorem dX9_publish_111 : decode cX9_publish 111 = .ok (.iload_n 1, 1) := by decide +kernel
theorem dX9_publish_112 : decode cX9_publish 112 = .ok (.imul, 1) := by decide +kernel
theorem dX9_publish_113 : decode cX9_publish 113 = .ok (.iadd, 1) := by decide +kernel
theorem dX9_publish_114 : decode cX9_publish 114 = .ok (.iload_n 2, 1) := by decide +kernel
theorem dX9_publish_115 : decode cX9_publish 115 = .ok (.iadd, 1) := by decide +kernel
theorem dX9_publish_116 : decode cX9_publish 116 = .ok (.iload 4, 2) := by decide +kernel
theorem dX9_publish_118 : decode cX9_publish 118 = .ok (.ifCond .eq 7, 3) := by decide +kernel
theorem dX9_publish_121 : decode cX9_publish 121 = .ok (.iconst 2, 1) := by decide +kernel
theorem dX9_publish_122 : decode cX9_publish 122 = .ok (.goto 4, 3) := by decide +kernel
theorem dX9_publish_125 : decode cX9_publish 125 = .ok (.iconst 1, 1) := by decide +kernel
theorem dX9_publish_126 : decode cX9_publish 126 = .ok (.iastore, 1) := by decide +kernel
theorem dX9_publish_127 : decode cX9_publish 127 = .ok (.iload 5, 2) := by decide +kernel
theorem dX9_publish_129 : decode cX9_publish 129 = .ok (.ireturn, 1) := by decide +kernel
theorem dX9_rebase_0 : decode cX9_rebase 0 = .ok (.aload_n 0, 1) := by decide +kernel
theorem dX9_rebase_1 : decode cX9_rebase 1 = .ok (.iconst 0, 1) := by decide +kernel
theorem dX9_rebase_2 : decode cX9_rebase 2 = .ok (.putfield 1, 3) := by decide +kernel
theorem dX9_rebase_5 : decode cX9_rebase 5 = .ok (.aload_n 0, 1) := by decide +kernel
theorem dX9_rebase_6 : decode cX9_rebase 6 = .ok (.iload_n 1, 1) := by decide +kernel
theorem dX9_rebase_7 : decode cX9_rebase 7 = .ok (.invokevirtual 169, 3) := by decide +kernel
theorem dX9_rebase_10 : decode cX9_rebase 10 = .ok (.ifCond .eq 26, 3) := by decide +kernel
theorem dX9_rebase_13 : decode cX9_rebase 13 = .ok (.iload_n 2, 1) := by decide +kernel
theorem dX9_rebase_14 : decode cX9_rebase 14 = .ok (.iconst 0, 1) := by decide +kernel
theorem dX9_rebase_15 : decode cX9_rebase 15 = .ok (.aload_n 0, 1) := by decide +kernel
theorem dX9_rebase_16 : decode cX9_rebase 16 = .ok (.invokevirtual 163, 3) := by decide +kernel
theorem dX9_rebase_19 : decode cX9_rebase 19 = .ok (.invokestatic 107, 3) := by decide +kernel
theorem dX9_rebase_22 : decode cX9_rebase 22 = .ok (.ifCond .eq 14, 3) := by decide +kernel
theorem dX9_rebase_25 : decode cX9_rebase 25 = .ok (.iload_n 3, 1) := by decide +kernel
theorem dX9_rebase_26 : decode cX9_rebase 26 = .ok (.iconst 1, 1) := by decide +kernel
theorem dX9_rebase_27 : decode cX9_rebase 27 = .ok (.sipush 999, 3) := by decide +kernel
theorem dX9_rebase_30 : decode cX9_rebase 30 = .ok (.invokestatic 107, 3) := by decide +kernel
theorem dX9_rebase_33 : decode cX9_rebase 33 = .ok (.ifCond .ne 5, 3) := by decide +kernel
theorem dX9_rebase_36 : decode cX9_rebase 36 = .ok (.iconst (-1), 1) := by decide +kernel
theorem dX9_rebase_37 : decode cX9_rebase 37 = .ok (.ireturn, 1) := by decide +kernel
theorem dX9_rebase_38 : decode cX9_rebase 38 = .ok (.aload_n 0, 1) := by decide +kernel
theorem dX9_rebase_39 : decode cX9_rebase 39 = .ok (.iload_n 1, 1) := by decide +kernel
theorem dX9_rebase_40 : decode cX9_rebase 40 = .ok (.iload_n 2, 1) := by decide +kernel
theorem dX9_rebase_41 : decode cX9_rebase 41 = .ok (.invokevirtual 156, 3) := by decide +kernel
theorem dX9_rebase_44 : decode cX9_rebase 44 = .ok (.iconst 2, 1) := by decide +kernel
theorem dX9_rebase_45 : decode cX9_rebase 45 = .ok (.if_icmp .eq 6, 3) := by decide +kernel
theorem dX9_rebase_48 : decode cX9_rebase 48 = .ok (.bipush (-2), 2) := by decide +kernel
theorem dX9_rebase_50 : decode cX9_rebase 50 = .ok (.ireturn, 1) := by decide +kernel
theorem dX9_rebase_51 : decode cX9_rebase 51 = .ok (.iload_n 2, 1) := by decide +kernel
theorem dX9_rebase_52 : decode cX9_rebase 52 = .ok (.aload_n 0, 1) := by decide +kernel
theorem dX9_rebase_53 : decode cX9_rebase 53 = .ok (.iload_n 1, 1) := by decide +kernel
theorem dX9_rebase_54 : decode cX9_rebase 54 = .ok (.invokevirtual 230, 3) := by decide +kernel
theorem dX9_rebase_57 : decode cX9_rebase 57 = .ok (.if_icmp .le 14, 3) := by decide +kernel
theorem dX9_rebase_60 : decode cX9_rebase 60 = .ok (.aload_n 0, 1) := by decide +kernel
theorem dX9_rebase_61 : decode cX9_rebase 61 = .ok (.iload_n 1, 1) := by decide +kernel
theorem dX9_rebase_62 : decode cX9_rebase 62 = .ok (.bipush 35, 2) := by decide +kernel
theorem dX9_rebase_64 : decode cX9_rebase 64 = .ok (.invokevirtual 175, 3) := by decide +kernel
theorem dX9_rebase_67 : decode cX9_rebase 67 = .ok (.iload_n 2, 1) := by decide +kernel
theorem dX9_rebase_68 : decode cX9_rebase 68 = .ok (.if_icmp .le 6, 3) := by decide +kernel
theorem dX9_rebase_71 : decode cX9_rebase 71 = .ok (.bipush (-3), 2) := by decide +kernel
theorem dX9_rebase_73 : decode cX9_rebase 73 = .ok (.ireturn, 1) := by decide +kernel
theorem dX9_rebase_74 : decode cX9_rebase 74 = .ok (.sipush 434, 3) := by decide +kernel
theorem dX9_rebase_77 : decode cX9_rebase 77 = .ok (.bipush 10, 2) := by decide +kernel
theorem dX9_rebase_79 : decode cX9_rebase 79 = .ok (.iload_n 1, 1) := by decide +kernel
theorem dX9_rebase_80 : decode cX9_rebase 80 = .ok (.imul, 1) := by decide +kernel
theorem dX9_rebase_81 : decode cX9_rebase 81 = .ok (.iadd, 1) := by decide +kernel
theorem dX9_rebase_82 : decode cX9_rebase 82 = .ok (.istore 4, 2) := by decide +kernel
theorem dX9_rebase_84 : decode cX9_rebase 84 = .ok (.aload_n 0, 1) := by decide +kernel
theorem dX9_rebase_85 : decode cX9_rebase 85 = .ok (.getfield 91, 3) := by decide +kernel
theorem dX9_rebase_88 : decode cX9_rebase 88 = .ok (.iload 4, 2) := by decide +kernel
theorem dX9_rebase_90 : decode cX9_rebase 90 = .ok (.iaload, 1) := by decide +kernel
theorem dX9_rebase_91 : decode cX9_rebase 91 = .ok (.iconst 3, 1) := by decide +kernel
theorem dX9_rebase_92 : decode cX9_rebase 92 = .ok (.if_icmp .ne 6, 3) := by decide +kernel
theorem dX9_rebase_95 : decode cX9_rebase 95 = .ok (.bipush (-4), 2) := by decide +kernel
theorem dX9_rebase_97 : decode cX9_rebase 97 = .ok (.ireturn, 1) := by decide +kernel
theorem dX9_rebase_98 : decode cX9_rebase 98 = .ok (.aload_n 0, 1) := by decide +kernel
theorem dX9_rebase_99 : decode cX9_rebase 99 = .ok (.invokevirtual 233, 3) := by decide +kernel
theorem dX9_rebase_102 : decode cX9_rebase 102 = .ok (.aload_n 0, 1) := by decide +kernel
theorem dX9_rebase_103 : decode cX9_rebase 103 = .ok (.getfield 91, 3) := by decide +kernel
theorem dX9_rebase_106 : decode cX9_rebase 106 = .ok (.iload 4, 2) := by decide +kernel
theorem dX9_rebase_108 : decode cX9_rebase 108 = .ok (.iconst 1, 1) := by decide +kernel
theorem dX9_rebase_109 : decode cX9_rebase 109 = .ok (.iadd, 1) := by decide +kernel
theorem dX9_rebase_110 : decode cX9_rebase 110 = .ok (.iconst 3, 1) := by decide +kernel
theorem dX9_rebase_111 : decode cX9_rebase 111 = .ok (.aload_n 0, 1) := by decide +kernel
theorem dX9_rebase_112 : decode cX9_rebase 112 = .ok (.getfield 91, 3) := by decide +kernel
theorem dX9_rebase_115 : decode cX9_rebase 115 = .ok (.iload 4, 2) := by decide +kernel
theorem dX9_rebase_117 : decode cX9_rebase 117 = .ok (.iaload, 1) := by decide +kernel
theorem dX9_rebase_118 : decode cX9_rebase 118 = .ok (.imul, 1) := by decide +kernel
theorem dX9_rebase_119 : decode cX9_rebase 119 = .ok (.iadd, 1) := by decide +kernel
theorem dX9_rebase_120 : decode cX9_rebase 120 = .ok (.iload_n 2, 1) := by decide +kernel
theorem dX9_rebase_121 : decode cX9_rebase 121 = .ok (.iastore, 1) := by decide +kernel
theorem dX9_rebase_122 : decode cX9_rebase 122 = .ok (.aload_n 0, 1) := by decide +kernel
theorem dX9_rebase_123 : decode cX9_rebase 123 = .ok (.getfield 91, 3) := by decide +kernel
theorem dX9_rebase_126 : decode cX9_rebase 126 = .ok (.iload 4, 2) := by decide +kernel
theorem dX9_rebase_128 : decode cX9_rebase 128 = .ok (.iconst 2, 1) := by decide +kernel
theorem dX9_rebase_129 : decode cX9_rebase 129 = .ok (.iadd, 1) := by decide +kernel
theorem dX9_rebase_130 : decode cX9_rebase 130 = .ok (.iconst 3, 1) := by decide +kernel
theorem dX9_rebase_131 : decode cX9_rebase 131 = .ok (.aload_n 0, 1) := by decide +kernel
theorem dX9_rebase_132 : decode cX9_rebase 132 = .ok (.getfield 91, 3) := by decide +kernel
theorem dX9_rebase_135 : decode cX9_rebase 135 = .ok (.iload 4, 2) := by decide +kernel
theorem dX9_rebase_137 : decode cX9_rebase 137 = .ok (.iaload, 1) := by decide +kernel
theorem dX9_rebase_138 : decode cX9_rebase 138 = .ok (.imul, 1) := by decide +kernel
theorem dX9_rebase_139 : decode cX9_rebase 139 = .ok (.iadd, 1) := by decide +kernel
theorem dX9_rebase_140 : decode cX9_rebase 140 = .ok (.aload_n 0, 1) := by decide +kernel
theorem dX9_rebase_141 : decode cX9_rebase 141 = .ok (.iload_n 1, 1) := by decide +kernel
theorem dX9_rebase_142 : decode cX9_rebase 142 = .ok (.iload_n 2, 1) := by decide +kernel
theorem dX9_rebase_143 : decode cX9_rebase 143 = .ok (.invokevirtual 178, 3) := by decide +kernel
theorem dX9_rebase_146 : decode cX9_rebase 146 = .ok (.iastore, 1) := by decide +kernel
theorem dX9_rebase_147 : decode cX9_rebase 147 = .ok (.aload_n 0, 1) := by decide +kernel
theorem dX9_rebase_148 : decode cX9_rebase 148 = .ok (.getfield 91, 3) := by decide +kernel
theorem dX9_rebase_151 : decode cX9_rebase 151 = .ok (.iload 4, 2) := by decide +kernel
theorem dX9_rebase_153 : decode cX9_rebase 153 = .ok (.iconst 3, 1) := by decide +kernel
theorem dX9_rebase_154 : decode cX9_rebase 154 = .ok (.iadd, 1) := by decide +kernel
theorem dX9_rebase_155 : decode cX9_rebase 155 = .ok (.iconst 3, 1) := by decide +kernel
theorem dX9_rebase_156 : decode cX9_rebase 156 = .ok (.aload_n 0, 1) := by decide +kernel
theorem dX9_rebase_157 : decode cX9_rebase 157 = .ok (.getfield 91, 3) := by decide +kernel
theorem dX9_rebase_160 : decode cX9_rebase 160 = .ok (.iload 4, 2) := by decide +kernel
theorem dX9_rebase_162 : decode cX9_rebase 162 = .ok (.iaload, 1) := by decide +kernel
theorem dX9_rebase_163 : decode cX9_rebase 163 = .ok (.imul, 1) := by decide +kernel
theorem dX9_rebase_164 : decode cX9_rebase 164 = .ok (.iadd, 1) := by decide +kernel
theorem dX9_rebase_165 : decode cX9_rebase 165 = .ok (.iload_n 3, 1) := by decide +kernel
theorem dX9_rebase_166 : decode cX9_rebase 166 = .ok (.iastore, 1) := by decide +kernel
theorem dX9_rebase_167 : decode cX9_rebase 167 = .ok (.aload_n 0, 1) := by decide +kernel
theorem dX9_rebase_168 : decode cX9_rebase 168 = .ok (.getfield 91, 3) := by decide +kernel
theorem dX9_rebase_171 : decode cX9_rebase 171 = .ok (.iload 4, 2) := by decide +kernel
theorem dX9_rebase_173 : decode cX9_rebase 173 = .ok (.dup2, 1) := by decide +kernel
theorem dX9_rebase_174 : decode cX9_rebase 174 = .ok (.iaload, 1) := by decide +kernel
theorem dX9_rebase_175 : decode cX9_rebase 175 = .ok (.iconst 1, 1) := by decide +kernel
theorem dX9_rebase_176 : decode cX9_rebase 176 = .ok (.iadd, 1) := by decide +kernel
theorem dX9_rebase_177 : decode cX9_rebase 177 = .ok (.iastore, 1) := by decide +kernel
theorem dX9_rebase_178 : decode cX9_rebase 178 = .ok (.aload_n 0, 1) := by decide +kernel
theorem dX9_rebase_179 : decode cX9_rebase 179 = .ok (.getfield 91, 3) := by decide +kernel
theorem dX9_rebase_182 : decode cX9_rebase 182 = .ok (.iload 4, 2) := by decide +kernel
theorem dX9_rebase_184 : decode cX9_rebase 184 = .ok (.iaload, 1) := by decide +kernel
theorem dX9_rebase_185 : decode cX9_rebase 185 = .ok (.ireturn, 1) := by decide +kernel
theorem dX9_deliver_0 : decode cX9_deliver 0 = .ok (.aload_n 0, 1) := by decide +kernel
theorem dX9_deliver_1 : decode cX9_deliver 1 = .ok (.iconst 0, 1) := by decide +kernel
theorem dX9_deliver_2 : decode cX9_deliver 2 = .ok (.putfield 1, 3) := by decide +kernel
theorem dX9_deliver_5 : decode cX9_deliver 5 = .ok (.aload_n 0, 1) := by decide +kernel
theorem dX9_deliver_6 : decode cX9_deliver 6 = .ok (.iload_n 1, 1) := by decide +kernel
theorem dX9_deliver_7 : decode cX9_deliver 7 = .ok (.invokevirtual 196, 3) := by decide +kernel
theorem dX9_deliver_10 : decode cX9_deliver 10 = .ok (.ifCond .eq 31, 3) := by decide +kernel
theorem dX9_deliver_13 : decode cX9_deliver 13 = .ok (.iload_n 2, 1) := by decide +kernel
theorem dX9_deliver_14 : decode cX9_deliver 14 = .ok (.aload_n 0, 1) := by decide +kernel
theorem dX9_deliver_15 : decode cX9_deliver 15 = .ok (.iload_n 1, 1) := by decide +kernel
theorem dX9_deliver_16 : decode cX9_deliver 16 = .ok (.iconst 2, 1) := by decide +kernel
theorem dX9_deliver_17 : decode cX9_deliver 17 = .ok (.invokevirtual 199, 3) := by decide +kernel
theorem dX9_deliver_20 : decode cX9_deliver 20 = .ok (.aload_n 0, 1) := by decide +kernel
theorem dX9_deliver_21 : decode cX9_deliver 21 = .ok (.invokevirtual 163, 3) := by decide +kernel
theorem dX9_deliver_24 : decode cX9_deliver 24 = .ok (.invokestatic 107, 3) := by decide +kernel
theorem dX9_deliver_27 : decode cX9_deliver 27 = .ok (.ifCond .eq 14, 3) := by decide +kernel
theorem dX9_deliver_30 : decode cX9_deliver 30 = .ok (.iload_n 3, 1) := by decide +kernel
theorem dX9_deliver_31 : decode cX9_deliver 31 = .ok (.iconst 1, 1) := by decide +kernel
theorem dX9_deliver_32 : decode cX9_deliver 32 = .ok (.sipush 999, 3) := by decide +kernel
theorem dX9_deliver_35 : decode cX9_deliver 35 = .ok (.invokestatic 107, 3) := by decide +kernel
theorem dX9_deliver_38 : decode cX9_deliver 38 = .ok (.ifCond .ne 5, 3) := by decide +kernel
theorem dX9_deliver_41 : decode cX9_deliver 41 = .ok (.iconst (-1), 1) := by decide +kernel
theorem dX9_deliver_42 : decode cX9_deliver 42 = .ok (.ireturn, 1) := by decide +kernel
theorem dX9_deliver_43 : decode cX9_deliver 43 = .ok (.aload_n 0, 1) := by decide +kernel
theorem dX9_deliver_44 : decode cX9_deliver 44 = .ok (.getfield 91, 3) := by decide +kernel
theorem dX9_deliver_47 : decode cX9_deliver 47 = .ok (.sipush 609, 3) := by decide +kernel
theorem dX9_deliver_50 : decode cX9_deliver 50 = .ok (.iaload, 1) := by decide +kernel
theorem dX9_deliver_51 : decode cX9_deliver 51 = .ok (.bipush 30, 2) := by decide +kernel
theorem dX9_deliver_53 : decode cX9_deliver 53 = .ok (.if_icmp .ne 6, 3) := by decide +kernel
theorem dX9_deliver_56 : decode cX9_deliver 56 = .ok (.bipush (-2), 2) := by decide +kernel
theorem dX9_deliver_58 : decode cX9_deliver 58 = .ok (.ireturn, 1) := by decide +kernel
theorem dX9_deliver_59 : decode cX9_deliver 59 = .ok (.aload_n 0, 1) := by decide +kernel
theorem dX9_deliver_60 : decode cX9_deliver 60 = .ok (.invokevirtual 233, 3) := by decide +kernel
theorem dX9_deliver_63 : decode cX9_deliver 63 = .ok (.aload_n 0, 1) := by decide +kernel
theorem dX9_deliver_64 : decode cX9_deliver 64 = .ok (.getfield 91, 3) := by decide +kernel
theorem dX9_deliver_67 : decode cX9_deliver 67 = .ok (.sipush 609, 3) := by decide +kernel
theorem dX9_deliver_70 : decode cX9_deliver 70 = .ok (.iaload, 1) := by decide +kernel
theorem dX9_deliver_71 : decode cX9_deliver 71 = .ok (.istore 4, 2) := by decide +kernel
theorem dX9_deliver_73 : decode cX9_deliver 73 = .ok (.sipush 610, 3) := by decide +kernel
theorem dX9_deliver_76 : decode cX9_deliver 76 = .ok (.bipush 9, 2) := by decide +kernel
theorem dX9_deliver_78 : decode cX9_deliver 78 = .ok (.iload 4, 2) := by decide +kernel
theorem dX9_deliver_80 : decode cX9_deliver 80 = .ok (.imul, 1) := by decide +kernel
theorem dX9_deliver_81 : decode cX9_deliver 81 = .ok (.iadd, 1) := by decide +kernel
theorem dX9_deliver_82 : decode cX9_deliver 82 = .ok (.istore 5, 2) := by decide +kernel
theorem dX9_deliver_84 : decode cX9_deliver 84 = .ok (.aload_n 0, 1) := by decide +kernel
theorem dX9_deliver_85 : decode cX9_deliver 85 = .ok (.iload_n 1, 1) := by decide +kernel
theorem dX9_deliver_86 : decode cX9_deliver 86 = .ok (.iload_n 2, 1) := by decide +kernel
theorem dX9_deliver_87 : decode cX9_deliver 87 = .ok (.invokevirtual 215, 3) := by decide +kernel
theorem dX9_deliver_90 : decode cX9_deliver 90 = .ok (.aload_n 0, 1) := by decide +kernel
theorem dX9_deliver_91 : decode cX9_deliver 91 = .ok (.iload_n 1, 1) := by decide +kernel
theorem dX9_deliver_92 : decode cX9_deliver 92 = .ok (.aload_n 0, 1) := by decide +kernel
theorem dX9_deliver_93 : decode cX9_deliver 93 = .ok (.invokevirtual 163, 3) := by decide +kernel
theorem dX9_deliver_96 : decode cX9_deliver 96 = .ok (.invokevirtual 215, 3) := by decide +kernel
theorem dX9_deliver_99 : decode cX9_deliver 99 = .ok (.if_icmp .gt 7, 3) := by decide +kernel
theorem dX9_deliver_102 : decode cX9_deliver 102 = .ok (.iload_n 2, 1) := by decide +kernel
theorem dX9_deliver_103 : decode cX9_deliver 103 = .ok (.goto 7, 3) := by decide +kernel
theorem dX9_deliver_106 : decode cX9_deliver 106 = .ok (.aload_n 0, 1) := by decide +kernel
theorem dX9_deliver_107 : decode cX9_deliver 107 = .ok (.invokevirtual 163, 3) := by decide +kernel
theorem dX9_deliver_110 : decode cX9_deliver 110 = .ok (.istore 6, 2) := by decide +kernel
theorem dX9_deliver_112 : decode cX9_deliver 112 = .ok (.aload_n 0, 1) := by decide +kernel
theorem dX9_deliver_113 : decode cX9_deliver 113 = .ok (.getfield 91, 3) := by decide +kernel
theorem dX9_deliver_116 : decode cX9_deliver 116 = .ok (.iload 5, 2) := by decide +kernel
theorem dX9_deliver_118 : decode cX9_deliver 118 = .ok (.iconst 0, 1) := by decide +kernel
theorem dX9_deliver_119 : decode cX9_deliver 119 = .ok (.iadd, 1) := by decide +kernel
theorem dX9_deliver_120 : decode cX9_deliver 120 = .ok (.iload_n 1, 1) := by decide +kernel
theorem dX9_deliver_121 : decode cX9_deliver 121 = .ok (.iastore, 1) := by decide +kernel
theorem dX9_deliver_122 : decode cX9_deliver 122 = .ok (.aload_n 0, 1) := by decide +kernel
theorem dX9_deliver_123 : decode cX9_deliver 123 = .ok (.getfield 91, 3) := by decide +kernel
theorem dX9_deliver_126 : decode cX9_deliver 126 = .ok (.iload 5, 2) := by decide +kernel
theorem dX9_deliver_128 : decode cX9_deliver 128 = .ok (.iconst 1, 1) := by decide +kernel
theorem dX9_deliver_129 : decode cX9_deliver 129 = .ok (.iadd, 1) := by decide +kernel
theorem dX9_deliver_130 : decode cX9_deliver 130 = .ok (.iload_n 2, 1) := by decide +kernel
theorem dX9_deliver_131 : decode cX9_deliver 131 = .ok (.iastore, 1) := by decide +kernel
theorem dX9_deliver_132 : decode cX9_deliver 132 = .ok (.aload_n 0, 1) := by decide +kernel
theorem dX9_deliver_133 : decode cX9_deliver 133 = .ok (.getfield 91, 3) := by decide +kernel
theorem dX9_deliver_136 : decode cX9_deliver 136 = .ok (.iload 5, 2) := by decide +kernel
theorem dX9_deliver_138 : decode cX9_deliver 138 = .ok (.iconst 2, 1) := by decide +kernel
theorem dX9_deliver_139 : decode cX9_deliver 139 = .ok (.iadd, 1) := by decide +kernel
theorem dX9_deliver_140 : decode cX9_deliver 140 = .ok (.aload_n 0, 1) := by decide +kernel
theorem dX9_deliver_141 : decode cX9_deliver 141 = .ok (.invokevirtual 163, 3) := by decide +kernel
theorem dX9_deliver_144 : decode cX9_deliver 144 = .ok (.iastore, 1) := by decide +kernel
theorem dX9_deliver_145 : decode cX9_deliver 145 = .ok (.aload_n 0, 1) := by decide +kernel
theorem dX9_deliver_146 : decode cX9_deliver 146 = .ok (.getfield 91, 3) := by decide +kernel
theorem dX9_deliver_149 : decode cX9_deliver 149 = .ok (.iload 5, 2) := by decide +kernel
theorem dX9_deliver_151 : decode cX9_deliver 151 = .ok (.iconst 3, 1) := by decide +kernel
theorem dX9_deliver_152 : decode cX9_deliver 152 = .ok (.iadd, 1) := by decide +kernel
theorem dX9_deliver_153 : decode cX9_deliver 153 = .ok (.iload_n 3, 1) := by decide +kernel
theorem dX9_deliver_154 : decode cX9_deliver 154 = .ok (.iastore, 1) := by decide +kernel
theorem dX9_deliver_155 : decode cX9_deliver 155 = .ok (.aload_n 0, 1) := by decide +kernel
theorem dX9_deliver_156 : decode cX9_deliver 156 = .ok (.getfield 91, 3) := by decide +kernel
theorem dX9_deliver_159 : decode cX9_deliver 159 = .ok (.iload 5, 2) := by decide +kernel
theorem dX9_deliver_161 : decode cX9_deliver 161 = .ok (.iconst 4, 1) := by decide +kernel
theorem dX9_deliver_162 : decode cX9_deliver 162 = .ok (.iadd, 1) := by decide +kernel
theorem dX9_deliver_163 : decode cX9_deliver 163 = .ok (.iload 6, 2) := by decide +kernel
theorem dX9_deliver_165 : decode cX9_deliver 165 = .ok (.iastore, 1) := by decide +kernel
theorem dX9_deliver_166 : decode cX9_deliver 166 = .ok (.aload_n 0, 1) := by decide +kernel
theorem dX9_deliver_167 : decode cX9_deliver 167 = .ok (.getfield 91, 3) := by decide +kernel
theorem dX9_deliver_170 : decode cX9_deliver 170 = .ok (.iload 5, 2) := by decide +kernel
theorem dX9_deliver_172 : decode cX9_deliver 172 = .ok (.iconst 5, 1) := by decide +kernel
theorem dX9_deliver_173 : decode cX9_deliver 173 = .ok (.iadd, 1) := by decide +kernel
theorem dX9_deliver_174 : decode cX9_deliver 174 = .ok (.aload_n 0, 1) := by decide +kernel
theorem dX9_deliver_175 : decode cX9_deliver 175 = .ok (.iload_n 1, 1) := by decide +kernel
theorem dX9_deliver_176 : decode cX9_deliver 176 = .ok (.iload 6, 2) := by decide +kernel
theorem dX9_deliver_178 : decode cX9_deliver 178 = .ok (.invokevirtual 215, 3) := by decide +kernel
theorem dX9_deliver_181 : decode cX9_deliver 181 = .ok (.iastore, 1) := by decide +kernel
theorem dX9_deliver_182 : decode cX9_deliver 182 = .ok (.aload_n 0, 1) := by decide +kernel
theorem dX9_deliver_183 : decode cX9_deliver 183 = .ok (.getfield 91, 3) := by decide +kernel
theorem dX9_deliver_186 : decode cX9_deliver 186 = .ok (.iload 5, 2) := by decide +kernel
theorem dX9_deliver_188 : decode cX9_deliver 188 = .ok (.bipush 6, 2) := by decide +kernel
theorem dX9_deliver_190 : decode cX9_deliver 190 = .ok (.iadd, 1) := by decide +kernel
theorem dX9_deliver_191 : decode cX9_deliver 191 = .ok (.iconst 0, 1) := by decide +kernel
theorem dX9_deliver_192 : decode cX9_deliver 192 = .ok (.iastore, 1) := by decide +kernel
theorem dX9_deliver_193 : decode cX9_deliver 193 = .ok (.aload_n 0, 1) := by decide +kernel
theorem dX9_deliver_194 : decode cX9_deliver 194 = .ok (.getfield 91, 3) := by decide +kernel
theorem dX9_deliver_197 : decode cX9_deliver 197 = .ok (.iload 5, 2) := by decide +kernel
theorem dX9_deliver_199 : decode cX9_deliver 199 = .ok (.bipush 7, 2) := by decide +kernel
theorem dX9_deliver_201 : decode cX9_deliver 201 = .ok (.iadd, 1) := by decide +kernel
theorem dX9_deliver_202 : decode cX9_deliver 202 = .ok (.iconst (-1), 1) := by decide +kernel
theorem dX9_deliver_203 : decode cX9_deliver 203 = .ok (.iastore, 1) := by decide +kernel
theorem dX9_deliver_204 : decode cX9_deliver 204 = .ok (.aload_n 0, 1) := by decide +kernel
theorem dX9_deliver_205 : decode cX9_deliver 205 = .ok (.getfield 91, 3) := by decide +kernel
theorem dX9_deliver_208 : decode cX9_deliver 208 = .ok (.iload 5, 2) := by decide +kernel
theorem dX9_deliver_210 : decode cX9_deliver 210 = .ok (.bipush 8, 2) := by decide +kernel
theorem dX9_deliver_212 : decode cX9_deliver 212 = .ok (.iadd, 1) := by decide +kernel
theorem dX9_deliver_213 : decode cX9_deliver 213 = .ok (.iconst 0, 1) := by decide +kernel
theorem dX9_deliver_214 : decode cX9_deliver 214 = .ok (.iastore, 1) := by decide +kernel
theorem dX9_deliver_215 : decode cX9_deliver 215 = .ok (.aload_n 0, 1) := by decide +kernel
theorem dX9_deliver_216 : decode cX9_deliver 216 = .ok (.getfield 91, 3) := by decide +kernel
theorem dX9_deliver_219 : decode cX9_deliver 219 = .ok (.sipush 609, 3) := by decide +kernel
theorem dX9_deliver_222 : decode cX9_deliver 222 = .ok (.dup2, 1) := by decide +kernel
theorem dX9_deliver_223 : decode cX9_deliver 223 = .ok (.iaload, 1) := by decide +kernel
theorem dX9_deliver_224 : decode cX9_deliver 224 = .ok (.iconst 1, 1) := by decide +kernel
theorem dX9_deliver_225 : decode cX9_deliver 225 = .ok (.iadd, 1) := by decide +kernel
theorem dX9_deliver_226 : decode cX9_deliver 226 = .ok (.iastore, 1) := by decide +kernel
theorem dX9_deliver_227 : decode cX9_deliver 227 = .ok (.iload 4, 2) := by decide +kernel
theorem dX9_deliver_229 : decode cX9_deliver 229 = .ok (.ireturn, 1) := by decide +kernel
theorem dX9_close_0 : decode cX9_close 0 = .ok (.aload_n 0, 1) := by decide +kernel
theorem dX9_close_1 : decode cX9_close 1 = .ok (.iconst 0, 1) := by decide +kernel
theorem dX9_close_2 : decode cX9_close 2 = .ok (.putfield 1, 3) := by decide +kernel
theorem dX9_close_5 : decode cX9_close 5 = .ok (.aload_n 0, 1) := by decide +kernel
theorem dX9_close_6 : decode cX9_close 6 = .ok (.invokevirtual 163, 3) := by decide +kernel
theorem dX9_close_9 : decode cX9_close 9 = .ok (.bipush 35, 2) := by decide +kernel
theorem dX9_close_11 : decode cX9_close 11 = .ok (.if_icmp .ne 5, 3) := by decide +kernel
theorem dX9_close_14 : decode cX9_close 14 = .ok (.iconst (-1), 1) := by decide +kernel
theorem dX9_close_15 : decode cX9_close 15 = .ok (.ireturn, 1) := by decide +kernel
theorem dX9_close_16 : decode cX9_close 16 = .ok (.aload_n 0, 1) := by decide +kernel
theorem dX9_close_17 : decode cX9_close 17 = .ok (.invokevirtual 233, 3) := by decide +kernel
theorem dX9_close_20 : decode cX9_close 20 = .ok (.iconst 0, 1) := by decide +kernel
theorem dX9_close_21 : decode cX9_close 21 = .ok (.istore_n 1, 1) := by decide +kernel
theorem dX9_close_22 : decode cX9_close 22 = .ok (.iconst 0, 1) := by decide +kernel
theorem dX9_close_23 : decode cX9_close 23 = .ok (.istore_n 2, 1) := by decide +kernel
theorem dX9_close_24 : decode cX9_close 24 = .ok (.iload_n 2, 1) := by decide +kernel
theorem dX9_close_25 : decode cX9_close 25 = .ok (.aload_n 0, 1) := by decide +kernel
theorem dX9_close_26 : decode cX9_close 26 = .ok (.getfield 91, 3) := by decide +kernel
theorem dX9_close_29 : decode cX9_close 29 = .ok (.sipush 609, 3) := by decide +kernel
theorem dX9_close_32 : decode cX9_close 32 = .ok (.iaload, 1) := by decide +kernel
theorem dX9_close_33 : decode cX9_close 33 = .ok (.if_icmp .ge 107, 3) := by decide +kernel
theorem dX9_close_36 : decode cX9_close 36 = .ok (.aload_n 0, 1) := by decide +kernel
theorem dX9_close_37 : decode cX9_close 37 = .ok (.iload_n 2, 1) := by decide +kernel
theorem dX9_close_38 : decode cX9_close 38 = .ok (.bipush 6, 2) := by decide +kernel
theorem dX9_close_40 : decode cX9_close 40 = .ok (.invokevirtual 160, 3) := by decide +kernel
theorem dX9_close_43 : decode cX9_close 43 = .ok (.iconst 1, 1) := by decide +kernel
theorem dX9_close_44 : decode cX9_close 44 = .ok (.if_icmp .eq 90, 3) := by decide +kernel
theorem dX9_close_47 : decode cX9_close 47 = .ok (.aload_n 0, 1) := by decide +kernel
theorem dX9_close_48 : decode cX9_close 48 = .ok (.iload_n 2, 1) := by decide +kernel
theorem dX9_close_49 : decode cX9_close 49 = .ok (.invokevirtual 224, 3) := by decide +kernel
theorem dX9_close_52 : decode cX9_close 52 = .ok (.ifCond .eq 6, 3) := by decide +kernel
theorem dX9_close_55 : decode cX9_close 55 = .ok (.goto 79, 3) := by decide +kernel
theorem dX9_close_58 : decode cX9_close 58 = .ok (.sipush 610, 3) := by decide +kernel
theorem dX9_close_61 : decode cX9_close 61 = .ok (.bipush 9, 2) := by decide +kernel
theorem dX9_close_63 : decode cX9_close 63 = .ok (.iload_n 2, 1) := by decide +kernel
theorem dX9_close_64 : decode cX9_close 64 = .ok (.imul, 1) := by decide +kernel
theorem dX9_close_65 : decode cX9_close 65 = .ok (.iadd, 1) := by decide +kernel
theorem dX9_close_66 : decode cX9_close 66 = .ok (.istore_n 3, 1) := by decide +kernel
theorem dX9_close_67 : decode cX9_close 67 = .ok (.aload_n 0, 1) := by decide +kernel
theorem dX9_close_68 : decode cX9_close 68 = .ok (.getfield 91, 3) := by decide +kernel
theorem dX9_close_71 : decode cX9_close 71 = .ok (.iload_n 3, 1) := by decide +kernel
theorem dX9_close_72 : decode cX9_close 72 = .ok (.bipush 6, 2) := by decide +kernel
theorem dX9_close_74 : decode cX9_close 74 = .ok (.iadd, 1) := by decide +kernel
theorem dX9_close_75 : decode cX9_close 75 = .ok (.iconst 1, 1) := by decide +kernel
theorem dX9_close_76 : decode cX9_close 76 = .ok (.iastore, 1) := by decide +kernel
theorem dX9_close_77 : decode cX9_close 77 = .ok (.aload_n 0, 1) := by decide +kernel
theorem dX9_close_78 : decode cX9_close 78 = .ok (.getfield 91, 3) := by decide +kernel
theorem dX9_close_81 : decode cX9_close 81 = .ok (.iload_n 3, 1) := by decide +kernel
theorem dX9_close_82 : decode cX9_close 82 = .ok (.bipush 7, 2) := by decide +kernel
theorem dX9_close_84 : decode cX9_close 84 = .ok (.iadd, 1) := by decide +kernel
theorem dX9_close_85 : decode cX9_close 85 = .ok (.aload_n 0, 1) := by decide +kernel
theorem dX9_close_86 : decode cX9_close 86 = .ok (.invokevirtual 163, 3) := by decide +kernel
theorem dX9_close_89 : decode cX9_close 89 = .ok (.iastore, 1) := by decide +kernel
theorem dX9_close_90 : decode cX9_close 90 = .ok (.aload_n 0, 1) := by decide +kernel
theorem dX9_close_91 : decode cX9_close 91 = .ok (.getfield 91, 3) := by decide +kernel
theorem dX9_close_94 : decode cX9_close 94 = .ok (.iload_n 3, 1) := by decide +kernel
theorem dX9_close_95 : decode cX9_close 95 = .ok (.bipush 8, 2) := by decide +kernel
theorem dX9_close_97 : decode cX9_close 97 = .ok (.iadd, 1) := by decide +kernel
theorem dX9_close_98 : decode cX9_close 98 = .ok (.aload_n 0, 1) := by decide +kernel
theorem dX9_close_99 : decode cX9_close 99 = .ok (.iload_n 2, 1) := by decide +kernel
theorem dX9_close_100 : decode cX9_close 100 = .ok (.iconst 3, 1) := by decide +kernel
theorem dX9_close_101 : decode cX9_close 101 = .ok (.invokevirtual 160, 3) := by decide +kernel
theorem dX9_close_104 : decode cX9_close 104 = .ok (.i2l, 1) := by decide +kernel
theorem dX9_close_105 : decode cX9_close 105 = .ok (.aload_n 0, 1) := by decide +kernel
theorem dX9_close_106 : decode cX9_close 106 = .ok (.aload_n 0, 1) := by decide +kernel
theorem dX9_close_107 : decode cX9_close 107 = .ok (.iload_n 2, 1) := by decide +kernel
theorem dX9_close_108 : decode cX9_close 108 = .ok (.iconst 0, 1) := by decide +kernel
theorem dX9_close_109 : decode cX9_close 109 = .ok (.invokevirtual 160, 3) := by decide +kernel
theorem dX9_close_112 : decode cX9_close 112 = .ok (.aload_n 0, 1) := by decide +kernel
theorem dX9_close_113 : decode cX9_close 113 = .ok (.iload_n 2, 1) := by decide +kernel
theorem dX9_close_114 : decode cX9_close 114 = .ok (.iconst 4, 1) := by decide +kernel
theorem dX9_close_115 : decode cX9_close 115 = .ok (.invokevirtual 160, 3) := by decide +kernel
theorem dX9_close_118 : decode cX9_close 118 = .ok (.invokevirtual 215, 3) := by decide +kernel
theorem dX9_close_121 : decode cX9_close 121 = .ok (.i2l, 1) := by decide +kernel
theorem dX9_close_122 : decode cX9_close 122 = .ok (.lmul, 1) := by decide +kernel
theorem dX9_close_123 : decode cX9_close 123 = .ok (.aload_n 0, 1) := by decide +kernel
theorem dX9_close_124 : decode cX9_close 124 = .ok (.iload_n 2, 1) := by decide +kernel
theorem dX9_close_125 : decode cX9_close 125 = .ok (.invokevirtual 227, 3) := by decide +kernel
theorem dX9_close_128 : decode cX9_close 128 = .ok (.lsub, 1) := by decide +kernel
theorem dX9_close_129 : decode cX9_close 129 = .ok (.l2i, 1) := by decide +kernel
theorem dX9_close_130 : decode cX9_close 130 = .ok (.iastore, 1) := by decide +kernel
theorem dX9_close_131 : decode cX9_close 131 = .ok (.iinc 1 1, 3) := by decide +kernel
theorem dX9_close_134 : decode cX9_close 134 = .ok (.iinc 2 1, 3) := by decide +kernel
theorem dX9_close_137 : decode cX9_close 137 = .ok (.goto (-113), 3) := by decide +kernel
theorem dX9_close_140 : decode cX9_close 140 = .ok (.aload_n 0, 1) := by decide +kernel
theorem dX9_close_141 : decode cX9_close 141 = .ok (.getfield 91, 3) := by decide +kernel
theorem dX9_close_144 : decode cX9_close 144 = .ok (.iconst 0, 1) := by decide +kernel
theorem dX9_close_145 : decode cX9_close 145 = .ok (.dup2, 1) := by decide +kernel
theorem dX9_close_146 : decode cX9_close 146 = .ok (.iaload, 1) := by decide +kernel
theorem dX9_close_147 : decode cX9_close 147 = .ok (.iconst 1, 1) := by decide +kernel
theorem dX9_close_148 : decode cX9_close 148 = .ok (.iadd, 1) := by decide +kernel
theorem dX9_close_149 : decode cX9_close 149 = .ok (.iastore, 1) := by decide +kernel
theorem dX9_close_150 : decode cX9_close 150 = .ok (.iload_n 1, 1) := by decide +kernel
theorem dX9_close_151 : decode cX9_close 151 = .ok (.ireturn, 1) := by decide +kernel
theorem dX9_undo_0 : decode cX9_undo 0 = .ok (.aload_n 0, 1) := by decide +kernel
theorem dX9_undo_1 : decode cX9_undo 1 = .ok (.iconst 0, 1) := by decide +kernel
theorem dX9_undo_2 : decode cX9_undo 2 = .ok (.putfield 1, 3) := by decide +kernel
theorem dX9_undo_5 : decode cX9_undo 5 = .ok (.aload_n 0, 1) := by decide +kernel
theorem dX9_undo_6 : decode cX9_undo 6 = .ok (.getfield 153, 3) := by decide +kernel
theorem dX9_undo_9 : decode cX9_undo 9 = .ok (.ifCond .ne 5, 3) := by decide +kernel
theorem dX9_undo_12 : decode cX9_undo 12 = .ok (.iconst (-1), 1) := by decide +kernel
theorem dX9_undo_13 : decode cX9_undo 13 = .ok (.ireturn, 1) := by decide +kernel
theorem dX9_undo_14 : decode cX9_undo 14 = .ok (.aload_n 0, 1) := by decide +kernel
theorem dX9_undo_15 : decode cX9_undo 15 = .ok (.dup, 1) := by decide +kernel
theorem dX9_undo_16 : decode cX9_undo 16 = .ok (.getfield 153, 3) := by decide +kernel
theorem dX9_undo_19 : decode cX9_undo 19 = .ok (.iconst 1, 1) := by decide +kernel
theorem dX9_undo_20 : decode cX9_undo 20 = .ok (.isub, 1) := by decide +kernel
theorem dX9_undo_21 : decode cX9_undo 21 = .ok (.putfield 153, 3) := by decide +kernel
theorem dX9_undo_24 : decode cX9_undo 24 = .ok (.iconst 0, 1) := by decide +kernel
theorem dX9_undo_25 : decode cX9_undo 25 = .ok (.istore_n 1, 1) := by decide +kernel
theorem dX9_undo_26 : decode cX9_undo 26 = .ok (.iload_n 1, 1) := by decide +kernel
theorem dX9_undo_27 : decode cX9_undo 27 = .ok (.sipush 880, 3) := by decide +kernel
theorem dX9_undo_30 : decode cX9_undo 30 = .ok (.if_icmp .ge 30, 3) := by decide +kernel
theorem dX9_undo_33 : decode cX9_undo 33 = .ok (.aload_n 0, 1) := by decide +kernel
theorem dX9_undo_34 : decode cX9_undo 34 = .ok (.getfield 91, 3) := by decide +kernel
theorem dX9_undo_37 : decode cX9_undo 37 = .ok (.iload_n 1, 1) := by decide +kernel
theorem dX9_undo_38 : decode cX9_undo 38 = .ok (.aload_n 0, 1) := by decide +kernel
theorem dX9_undo_39 : decode cX9_undo 39 = .ok (.getfield 97, 3) := by decide +kernel
theorem dX9_undo_42 : decode cX9_undo 42 = .ok (.sipush 880, 3) := by decide +kernel
theorem dX9_undo_45 : decode cX9_undo 45 = .ok (.aload_n 0, 1) := by decide +kernel
theorem dX9_undo_46 : decode cX9_undo 46 = .ok (.getfield 153, 3) := by decide +kernel
theorem dX9_undo_49 : decode cX9_undo 49 = .ok (.imul, 1) := by decide +kernel
theorem dX9_undo_50 : decode cX9_undo 50 = .ok (.iload_n 1, 1) := by decide +kernel
theorem dX9_undo_51 : decode cX9_undo 51 = .ok (.iadd, 1) := by decide +kernel
theorem dX9_undo_52 : decode cX9_undo 52 = .ok (.iaload, 1) := by decide +kernel
theorem dX9_undo_53 : decode cX9_undo 53 = .ok (.iastore, 1) := by decide +kernel
theorem dX9_undo_54 : decode cX9_undo 54 = .ok (.iinc 1 1, 3) := by decide +kernel
theorem dX9_undo_57 : decode cX9_undo 57 = .ok (.goto (-31), 3) := by decide +kernel
theorem dX9_undo_60 : decode cX9_undo 60 = .ok (.aload_n 0, 1) := by decide +kernel
theorem dX9_undo_61 : decode cX9_undo 61 = .ok (.getfield 153, 3) := by decide +kernel
theorem dX9_undo_64 : decode cX9_undo 64 = .ok (.ireturn, 1) := by decide +kernel
theorem dL_ratio_0 : decode cL_ratio 0 = .ok (.aload 4, 2) := by decide +kernel
theorem dL_ratio_2 : decode cL_ratio 2 = .ok (.iconst 0, 1) := by decide +kernel
theorem dL_ratio_3 : decode cL_ratio 3 = .ok (.aload_n 0, 1) := by decide +kernel
theorem dL_ratio_4 : decode cL_ratio 4 = .ok (.iload_n 1, 1) := by decide +kernel
theorem dL_ratio_5 : decode cL_ratio 5 = .ok (.iload_n 2, 1) := by decide +kernel
theorem dL_ratio_6 : decode cL_ratio 6 = .ok (.iload_n 3, 1) := by decide +kernel
theorem dL_ratio_7 : decode cL_ratio 7 = .ok (.invokevirtual 7, 3) := by decide +kernel
theorem dL_ratio_10 : decode cL_ratio 10 = .ok (.i2l, 1) := by decide +kernel
theorem dL_ratio_11 : decode cL_ratio 11 = .ok (.lastore, 1) := by decide +kernel
theorem dL_ratio_12 : decode cL_ratio 12 = .ok (.goto 7, 3) := by decide +kernel
theorem dL_ratio_15 : decode cL_ratio 15 = .ok (.astore 5, 2) := by decide +kernel
theorem dL_ratio_17 : decode cL_ratio 17 = .ok (.iconst 1, 1) := by decide +kernel
theorem dL_ratio_18 : decode cL_ratio 18 = .ok (.ireturn, 1) := by decide +kernel
theorem dL_ratio_19 : decode cL_ratio 19 = .ok (.iconst 0, 1) := by decide +kernel
theorem dL_ratio_20 : decode cL_ratio 20 = .ok (.ireturn, 1) := by decide +kernel
theorem dL_price_0 : decode cL_price 0 = .ok (.aload 4, 2) := by decide +kernel
theorem dL_price_2 : decode cL_price 2 = .ok (.iconst 0, 1) := by decide +kernel
theorem dL_price_3 : decode cL_price 3 = .ok (.aload_n 0, 1) := by decide +kernel
theorem dL_price_4 : decode cL_price 4 = .ok (.iload_n 1, 1) := by decide +kernel
theorem dL_price_5 : decode cL_price 5 = .ok (.iload_n 2, 1) := by decide +kernel
theorem dL_price_6 : decode cL_price 6 = .ok (.iload_n 3, 1) := by decide +kernel
theorem dL_price_7 : decode cL_price 7 = .ok (.invokevirtual 15, 3) := by decide +kernel
theorem dL_price_10 : decode cL_price 10 = .ok (.i2l, 1) := by decide +kernel
theorem dL_price_11 : decode cL_price 11 = .ok (.lastore, 1) := by decide +kernel
theorem dL_price_12 : decode cL_price 12 = .ok (.goto 7, 3) := by decide +kernel
theorem dL_price_15 : decode cL_price 15 = .ok (.astore 5, 2) := by decide +kernel
theorem dL_price_17 : decode cL_price 17 = .ok (.iconst 1, 1) := by decide +kernel
theorem dL_price_18 : decode cL_price 18 = .ok (.ireturn, 1) := by decide +kernel
theorem dL_price_19 : decode cL_price 19 = .ok (.iconst 0, 1) := by decide +kernel
theorem dL_price_20 : decode cL_price 20 = .ok (.ireturn, 1) := by decide +kernel
theorem dL_amount_0 : decode cL_amount 0 = .ok (.aload_n 3, 1) := by decide +kernel
theorem dL_amount_1 : decode cL_amount 1 = .ok (.iconst 0, 1) := by decide +kernel
theorem dL_amount_2 : decode cL_amount 2 = .ok (.aload_n 0, 1) := by decide +kernel
theorem dL_amount_3 : decode cL_amount 3 = .ok (.iload_n 1, 1) := by decide +kernel
theorem dL_amount_4 : decode cL_amount 4 = .ok (.iload_n 2, 1) := by decide +kernel
theorem dL_amount_5 : decode cL_amount 5 = .ok (.invokevirtual 18, 3) := by decide +kernel
theorem dL_amount_8 : decode cL_amount 8 = .ok (.lastore, 1) := by decide +kernel
theorem dL_amount_9 : decode cL_amount 9 = .ok (.goto 7, 3) := by decide +kernel
theorem dL_amount_12 : decode cL_amount 12 = .ok (.astore 4, 2) := by decide +kernel
theorem dL_amount_14 : decode cL_amount 14 = .ok (.iconst 1, 1) := by decide +kernel
theorem dL_amount_15 : decode cL_amount 15 = .ok (.ireturn, 1) := by decide +kernel
theorem dL_amount_16 : decode cL_amount 16 = .ok (.iconst 0, 1) := by decide +kernel
theorem dL_amount_17 : decode cL_amount 17 = .ok (.ireturn, 1) := by decide +kernel
theorem dL_statement_0 : decode cL_statement 0 = .ok (.aload_n 3, 1) := by decide +kernel
theorem dL_statement_1 : decode cL_statement 1 = .ok (.iconst 0, 1) := by decide +kernel
theorem dL_statement_2 : decode cL_statement 2 = .ok (.aload_n 0, 1) := by decide +kernel
theorem dL_statement_3 : decode cL_statement 3 = .ok (.iload_n 1, 1) := by decide +kernel
theorem dL_statement_4 : decode cL_statement 4 = .ok (.iload_n 2, 1) := by decide +kernel
theorem dL_statement_5 : decode cL_statement 5 = .ok (.invokevirtual 22, 3) := by decide +kernel
theorem dL_statement_8 : decode cL_statement 8 = .ok (.lastore, 1) := by decide +kernel
theorem dL_statement_9 : decode cL_statement 9 = .ok (.goto 7, 3) := by decide +kernel
theorem dL_statement_12 : decode cL_statement 12 = .ok (.astore 4, 2) := by decide +kernel
theorem dL_statement_14 : decode cL_statement 14 = .ok (.iconst 1, 1) := by decide +kernel
theorem dL_statement_15 : decode cL_statement 15 = .ok (.ireturn, 1) := by decide +kernel
theorem dL_statement_16 : decode cL_statement 16 = .ok (.iconst 0, 1) := by decide +kernel
theorem dL_statement_17 : decode cL_statement 17 = .ok (.ireturn, 1) := by decide +kernel
theorem dL_law_0 : decode cL_law 0 = .ok (.new 8, 3) := by decide +kernel
theorem dL_law_3 : decode cL_law 3 = .ok (.dup, 1) := by decide +kernel
theorem dL_law_4 : decode cL_law 4 = .ok (.invokespecial 25, 3) := by decide +kernel
theorem dL_law_7 : decode cL_law 7 = .ok (.astore_n 1, 1) := by decide +kernel
theorem dL_law_8 : decode cL_law 8 = .ok (.new 26, 3) := by decide +kernel
theorem dL_law_11 : decode cL_law 11 = .ok (.dup, 1) := by decide +kernel
theorem dL_law_12 : decode cL_law 12 = .ok (.invokespecial 28, 3) := by decide +kernel
theorem dL_law_15 : decode cL_law 15 = .ok (.astore_n 2, 1) := by decide +kernel
theorem dL_law_16 : decode cL_law 16 = .ok (.iconst 1, 1) := by decide +kernel
theorem dL_law_17 : decode cL_law 17 = .ok (.newarray .long, 2) := by decide +kernel
theorem dL_law_19 : decode cL_law 19 = .ok (.astore_n 3, 1) := by decide +kernel
theorem dL_law_20 : decode cL_law 20 = .ok (.iconst 0, 1) := by decide +kernel
theorem dL_law_21 : decode cL_law 21 = .ok (.istore 4, 2) := by decide +kernel
theorem dL_law_23 : decode cL_law 23 = .ok (.iload 4, 2) := by decide +kernel
theorem dL_law_25 : decode cL_law 25 = .ok (.aload_n 0, 1) := by decide +kernel
theorem dL_law_26 : decode cL_law 26 = .ok (.arraylength, 1) := by decide +kernel
theorem dL_law_27 : decode cL_law 27 = .ok (.bipush 6, 2) := by decide +kernel
theorem dL_law_29 : decode cL_law 29 = .ok (.isub, 1) := by decide +kernel
theorem dL_law_30 : decode cL_law 30 = .ok (.if_icmp .gt 1014, 3) := by decide +kernel
theorem dL_law_33 : decode cL_law 33 = .ok (.aload_n 0, 1) := by decide +kernel
theorem dL_law_34 : decode cL_law 34 = .ok (.iload 4, 2) := by decide +kernel
theorem dL_law_36 : decode cL_law 36 = .ok (.iaload, 1) := by decide +kernel
theorem dL_law_37 : decode cL_law 37 = .ok (.bipush 31, 2) := by decide +kernel
theorem dL_law_39 : decode cL_law 39 = .ok (.iand, 1) := by decide +kernel
theorem dL_law_40 : decode cL_law 40 = .ok (.tableswitch 998 0 19 #[96, 169, 194, 207, 220, 245, 294, 343, 423, 460, 540, 589, 626, 663, 730, 797, 874, 923, 972, 985], 96) := by decide +kernel
theorem dL_law_136 : decode cL_law 136 = .ok (.aload_n 1, 1) := by decide +kernel
theorem dL_law_137 : decode cL_law 137 = .ok (.aload_n 0, 1) := by decide +kernel
theorem dL_law_138 : decode cL_law 138 = .ok (.iload 4, 2) := by decide +kernel
theorem dL_law_140 : decode cL_law 140 = .ok (.iconst 1, 1) := by decide +kernel
theorem dL_law_141 : decode cL_law 141 = .ok (.iadd, 1) := by decide +kernel
theorem dL_law_142 : decode cL_law 142 = .ok (.iaload, 1) := by decide +kernel
theorem dL_law_143 : decode cL_law 143 = .ok (.aload_n 0, 1) := by decide +kernel
theorem dL_law_144 : decode cL_law 144 = .ok (.iload 4, 2) := by decide +kernel
theorem dL_law_146 : decode cL_law 146 = .ok (.iconst 2, 1) := by decide +kernel
theorem dL_law_147 : decode cL_law 147 = .ok (.iadd, 1) := by decide +kernel
theorem dL_law_148 : decode cL_law 148 = .ok (.iaload, 1) := by decide +kernel
theorem dL_law_149 : decode cL_law 149 = .ok (.aload_n 0, 1) := by decide +kernel
theorem dL_law_150 : decode cL_law 150 = .ok (.iload 4, 2) := by decide +kernel
theorem dL_law_152 : decode cL_law 152 = .ok (.iconst 3, 1) := by decide +kernel
theorem dL_law_153 : decode cL_law 153 = .ok (.iadd, 1) := by decide +kernel
theorem dL_law_154 : decode cL_law 154 = .ok (.iaload, 1) := by decide +kernel
theorem dL_law_155 : decode cL_law 155 = .ok (.aload_n 0, 1) := by decide +kernel
theorem dL_law_156 : decode cL_law 156 = .ok (.iload 4, 2) := by decide +kernel
theorem dL_law_158 : decode cL_law 158 = .ok (.iconst 4, 1) := by decide +kernel
theorem dL_law_159 : decode cL_law 159 = .ok (.iadd, 1) := by decide +kernel
theorem dL_law_160 : decode cL_law 160 = .ok (.iaload, 1) := by decide +kernel
theorem dL_law_161 : decode cL_law 161 = .ok (.aload_n 0, 1) := by decide +kernel
theorem dL_law_162 : decode cL_law 162 = .ok (.iload 4, 2) := by decide +kernel
theorem dL_law_164 : decode cL_law 164 = .ok (.iconst 5, 1) := by decide +kernel
theorem dL_law_165 : decode cL_law 165 = .ok (.iadd, 1) := by decide +kernel
theorem dL_law_166 : decode cL_law 166 = .ok (.iaload, 1) := by decide +kernel
theorem dL_law_167 : decode cL_law 167 = .ok (.invokevirtual 29, 3) := by decide +kernel
theorem dL_law_170 : decode cL_law 170 = .ok (.aload_n 2, 1) := by decide +kernel
theorem dL_law_171 : decode cL_law 171 = .ok (.aload_n 0, 1) := by decide +kernel
theorem dL_law_172 : decode cL_law 172 = .ok (.iload 4, 2) := by decide +kernel
theorem dL_law_174 : decode cL_law 174 = .ok (.iconst 1, 1) := by decide +kernel
theorem dL_law_175 : decode cL_law 175 = .ok (.iadd, 1) := by decide +kernel
theorem dL_law_176 : decode cL_law 176 = .ok (.iaload, 1) := by decide +kernel
theorem dL_law_177 : decode cL_law 177 = .ok (.aload_n 0, 1) := by decide +kernel
theorem dL_law_178 : decode cL_law 178 = .ok (.iload 4, 2) := by decide +kernel
theorem dL_law_180 : decode cL_law 180 = .ok (.iconst 2, 1) := by decide +kernel
theorem dL_law_181 : decode cL_law 181 = .ok (.iadd, 1) := by decide +kernel
theorem dL_law_182 : decode cL_law 182 = .ok (.iaload, 1) := by decide +kernel
theorem dL_law_183 : decode cL_law 183 = .ok (.aload_n 0, 1) := by decide +kernel
theorem dL_law_184 : decode cL_law 184 = .ok (.iload 4, 2) := by decide +kernel
theorem dL_law_186 : decode cL_law 186 = .ok (.iconst 3, 1) := by decide +kernel
theorem dL_law_187 : decode cL_law 187 = .ok (.iadd, 1) := by decide +kernel
theorem dL_law_188 : decode cL_law 188 = .ok (.iaload, 1) := by decide +kernel
theorem dL_law_189 : decode cL_law 189 = .ok (.aload_n 0, 1) := by decide +kernel
theorem dL_law_190 : decode cL_law 190 = .ok (.iload 4, 2) := by decide +kernel
theorem dL_law_192 : decode cL_law 192 = .ok (.iconst 4, 1) := by decide +kernel
theorem dL_law_193 : decode cL_law 193 = .ok (.iadd, 1) := by decide +kernel
theorem dL_law_194 : decode cL_law 194 = .ok (.iaload, 1) := by decide +kernel
theorem dL_law_195 : decode cL_law 195 = .ok (.aload_n 0, 1) := by decide +kernel
theorem dL_law_196 : decode cL_law 196 = .ok (.iload 4, 2) := by decide +kernel
theorem dL_law_198 : decode cL_law 198 = .ok (.iconst 5, 1) := by decide +kernel
theorem dL_law_199 : decode cL_law 199 = .ok (.iadd, 1) := by decide +kernel
theorem dL_law_200 : decode cL_law 200 = .ok (.iaload, 1) := by decide +kernel
theorem dL_law_201 : decode cL_law 201 = .ok (.invokevirtual 33, 3) := by decide +kernel
theorem dL_law_204 : decode cL_law 204 = .ok (.if_icmp .eq 834, 3) := by decide +kernel
theorem dL_law_207 : decode cL_law 207 = .ok (.iconst 0, 1) := by decide +kernel
theorem dL_law_208 : decode cL_law 208 = .ok (.ireturn, 1) := by decide +kernel
theorem dL_law_209 : decode cL_law 209 = .ok (.aload_n 1, 1) := by decide +kernel
theorem dL_law_210 : decode cL_law 210 = .ok (.aload_n 0, 1) := by decide +kernel
theorem dL_law_211 : decode cL_law 211 = .ok (.iload 4, 2) := by decide +kernel
theorem dL_law_213 : decode cL_law 213 = .ok (.iconst 1, 1) := by decide +kernel
theorem dL_law_214 : decode cL_law 214 = .ok (.iadd, 1) := by decide +kernel
theorem dL_law_215 : decode cL_law 215 = .ok (.iaload, 1) := by decide +kernel
theorem dL_law_216 : decode cL_law 216 = .ok (.invokevirtual 34, 3) := by decide +kernel
theorem dL_law_219 : decode cL_law 219 = .ok (.aload_n 2, 1) := by decide +kernel
theorem dL_law_220 : decode cL_law 220 = .ok (.aload_n 0, 1) := by decide +kernel
theorem dL_law_221 : decode cL_law 221 = .ok (.iload 4, 2) := by decide +kernel
theorem dL_law_223 : decode cL_law 223 = .ok (.iconst 1, 1) := by decide +kernel
theorem dL_law_224 : decode cL_law 224 = .ok (.iadd, 1) := by decide +kernel
theorem dL_law_225 : decode cL_law 225 = .ok (.iaload, 1) := by decide +kernel
theorem dL_law_226 : decode cL_law 226 = .ok (.invokevirtual 38, 3) := by decide +kernel
theorem dL_law_229 : decode cL_law 229 = .ok (.if_icmp .eq 809, 3) := by decide +kernel
theorem dL_law_232 : decode cL_law 232 = .ok (.iconst 0, 1) := by decide +kernel
theorem dL_law_233 : decode cL_law 233 = .ok (.ireturn, 1) := by decide +kernel
theorem dL_law_234 : decode cL_law 234 = .ok (.aload_n 1, 1) := by decide +kernel
theorem dL_law_235 : decode cL_law 235 = .ok (.invokevirtual 39, 3) := by decide +kernel
theorem dL_law_238 : decode cL_law 238 = .ok (.aload_n 2, 1) := by decide +kernel
theorem dL_law_239 : decode cL_law 239 = .ok (.invokevirtual 43, 3) := by decide +kernel
theorem dL_law_242 : decode cL_law 242 = .ok (.if_icmp .eq 796, 3) := by decide +kernel
theorem dL_law_245 : decode cL_law 245 = .ok (.iconst 0, 1) := by decide +kernel
theorem dL_law_246 : decode cL_law 246 = .ok (.ireturn, 1) := by decide +kernel
theorem dL_law_247 : decode cL_law 247 = .ok (.aload_n 1, 1) := by decide +kernel
theorem dL_law_248 : decode cL_law 248 = .ok (.invokevirtual 44, 3) := by decide +kernel
theorem dL_law_251 : decode cL_law 251 = .ok (.aload_n 2, 1) := by decide +kernel
theorem dL_law_252 : decode cL_law 252 = .ok (.invokevirtual 47, 3) := by decide +kernel
theorem dL_law_255 : decode cL_law 255 = .ok (.if_icmp .eq 783, 3) := by decide +kernel
theorem dL_law_258 : decode cL_law 258 = .ok (.iconst 0, 1) := by decide +kernel
theorem dL_law_259 : decode cL_law 259 = .ok (.ireturn, 1) := by decide +kernel
theorem dL_law_260 : decode cL_law 260 = .ok (.aload_n 1, 1) := by decide +kernel
theorem dL_law_261 : decode cL_law 261 = .ok (.aload_n 0, 1) := by decide +kernel
theorem dL_law_262 : decode cL_law 262 = .ok (.iload 4, 2) := by decide +kernel
theorem dL_law_264 : decode cL_law 264 = .ok (.iconst 1, 1) := by decide +kernel
theorem dL_law_265 : decode cL_law 265 = .ok (.iadd, 1) := by decide +kernel
theorem dL_law_266 : decode cL_law 266 = .ok (.iaload, 1) := by decide +kernel
theorem dL_law_267 : decode cL_law 267 = .ok (.invokevirtual 48, 3) := by decide +kernel
theorem dL_law_270 : decode cL_law 270 = .ok (.aload_n 2, 1) := by decide +kernel
theorem dL_law_271 : decode cL_law 271 = .ok (.aload_n 0, 1) := by decide +kernel
theorem dL_law_272 : decode cL_law 272 = .ok (.iload 4, 2) := by decide +kernel
theorem dL_law_274 : decode cL_law 274 = .ok (.iconst 1, 1) := by decide +kernel
theorem dL_law_275 : decode cL_law 275 = .ok (.iadd, 1) := by decide +kernel
theorem dL_law_276 : decode cL_law 276 = .ok (.iaload, 1) := by decide +kernel
theorem dL_law_277 : decode cL_law 277 = .ok (.invokevirtual 52, 3) := by decide +kernel
theorem dL_law_280 : decode cL_law 280 = .ok (.if_icmp .eq 758, 3) := by decide +kernel
theorem dL_law_283 : decode cL_law 283 = .ok (.iconst 0, 1) := by decide +kernel
theorem dL_law_284 : decode cL_law 284 = .ok (.ireturn, 1) := by decide +kernel
theorem dL_law_285 : decode cL_law 285 = .ok (.aload_n 1, 1) := by decide +kernel
theorem dL_law_286 : decode cL_law 286 = .ok (.aload_n 0, 1) := by decide +kernel
theorem dL_law_287 : decode cL_law 287 = .ok (.iload 4, 2) := by decide +kernel
theorem dL_law_289 : decode cL_law 289 = .ok (.iconst 1, 1) := by decide +kernel
theorem dL_law_290 : decode cL_law 290 = .ok (.iadd, 1) := by decide +kernel
theorem dL_law_291 : decode cL_law 291 = .ok (.iaload, 1) := by decide +kernel
theorem dL_law_292 : decode cL_law 292 = .ok (.aload_n 0, 1) := by decide +kernel
theorem dL_law_293 : decode cL_law 293 = .ok (.iload 4, 2) := by decide +kernel
theorem dL_law_295 : decode cL_law 295 = .ok (.iconst 2, 1) := by decide +kernel
theorem dL_law_296 : decode cL_law 296 = .ok (.iadd, 1) := by decide +kernel
theorem dL_law_297 : decode cL_law 297 = .ok (.iaload, 1) := by decide +kernel
theorem dL_law_298 : decode cL_law 298 = .ok (.aload_n 0, 1) := by decide +kernel
theorem dL_law_299 : decode cL_law 299 = .ok (.iload 4, 2) := by decide +kernel
theorem dL_law_301 : decode cL_law 301 = .ok (.iconst 3, 1) := by decide +kernel
theorem dL_law_302 : decode cL_law 302 = .ok (.iadd, 1) := by decide +kernel
theorem dL_law_303 : decode cL_law 303 = .ok (.iaload, 1) := by decide +kernel
theorem dL_law_304 : decode cL_law 304 = .ok (.invokevirtual 53, 3) := by decide +kernel
theorem dL_law_307 : decode cL_law 307 = .ok (.aload_n 2, 1) := by decide +kernel
theorem dL_law_308 : decode cL_law 308 = .ok (.aload_n 0, 1) := by decide +kernel
theorem dL_law_309 : decode cL_law 309 = .ok (.iload 4, 2) := by decide +kernel
theorem dL_law_311 : decode cL_law 311 = .ok (.iconst 1, 1) := by decide +kernel
theorem dL_law_312 : decode cL_law 312 = .ok (.iadd, 1) := by decide +kernel
theorem dL_law_313 : decode cL_law 313 = .ok (.iaload, 1) := by decide +kernel
theorem dL_law_314 : decode cL_law 314 = .ok (.aload_n 0, 1) := by decide +kernel
theorem dL_law_315 : decode cL_law 315 = .ok (.iload 4, 2) := by decide +kernel
theorem dL_law_317 : decode cL_law 317 = .ok (.iconst 2, 1) := by decide +kernel
theorem dL_law_318 : decode cL_law 318 = .ok (.iadd, 1) := by decide +kernel
theorem dL_law_319 : decode cL_law 319 = .ok (.iaload, 1) := by decide +kernel
theorem dL_law_320 : decode cL_law 320 = .ok (.aload_n 0, 1) := by decide +kernel
theorem dL_law_321 : decode cL_law 321 = .ok (.iload 4, 2) := by decide +kernel
theorem dL_law_323 : decode cL_law 323 = .ok (.iconst 3, 1) := by decide +kernel
theorem dL_law_324 : decode cL_law 324 = .ok (.iadd, 1) := by decide +kernel
theorem dL_law_325 : decode cL_law 325 = .ok (.iaload, 1) := by decide +kernel
theorem dL_law_326 : decode cL_law 326 = .ok (.invokevirtual 56, 3) := by decide +kernel
theorem dL_law_329 : decode cL_law 329 = .ok (.if_icmp .eq 709, 3) := by decide +kernel
theorem dL_law_332 : decode cL_law 332 = .ok (.iconst 0, 1) := by decide +kernel
theorem dL_law_333 : decode cL_law 333 = .ok (.ireturn, 1) := by decide +kernel
theorem dL_law_334 : decode cL_law 334 = .ok (.aload_n 1, 1) := by decide +kernel
theorem dL_law_335 : decode cL_law 335 = .ok (.aload_n 0, 1) := by decide +kernel
theorem dL_law_336 : decode cL_law 336 = .ok (.iload 4, 2) := by decide +kernel
theorem dL_law_338 : decode cL_law 338 = .ok (.iconst 1, 1) := by decide +kernel
theorem dL_law_339 : decode cL_law 339 = .ok (.iadd, 1) := by decide +kernel
theorem dL_law_340 : decode cL_law 340 = .ok (.iaload, 1) := by decide +kernel
theorem dL_law_341 : decode cL_law 341 = .ok (.aload_n 0, 1) := by decide +kernel
theorem dL_law_342 : decode cL_law 342 = .ok (.iload 4, 2) := by decide +kernel
theorem dL_law_344 : decode cL_law 344 = .ok (.iconst 2, 1) := by decide +kernel
theorem dL_law_345 : decode cL_law 345 = .ok (.iadd, 1) := by decide +kernel
theorem dL_law_346 : decode cL_law 346 = .ok (.iaload, 1) := by decide +kernel
theorem dL_law_347 : decode cL_law 347 = .ok (.aload_n 0, 1) := by decide +kernel
theorem dL_law_348 : decode cL_law 348 = .ok (.iload 4, 2) := by decide +kernel
theorem dL_law_350 : decode cL_law 350 = .ok (.iconst 3, 1) := by decide +kernel
theorem dL_law_351 : decode cL_law 351 = .ok (.iadd, 1) := by decide +kernel
theorem dL_law_352 : decode cL_law 352 = .ok (.iaload, 1) := by decide +kernel
theorem dL_law_353 : decode cL_law 353 = .ok (.invokevirtual 57, 3) := by decide +kernel
theorem dL_law_356 : decode cL_law 356 = .ok (.aload_n 2, 1) := by decide +kernel
theorem dL_law_357 : decode cL_law 357 = .ok (.aload_n 0, 1) := by decide +kernel
theorem dL_law_358 : decode cL_law 358 = .ok (.iload 4, 2) := by decide +kernel
theorem dL_law_360 : decode cL_law 360 = .ok (.iconst 1, 1) := by decide +kernel
theorem dL_law_361 : decode cL_law 361 = .ok (.iadd, 1) := by decide +kernel
theorem dL_law_362 : decode cL_law 362 = .ok (.iaload, 1) := by decide +kernel
theorem dL_law_363 : decode cL_law 363 = .ok (.aload_n 0, 1) := by decide +kernel
theorem dL_law_364 : decode cL_law 364 = .ok (.iload 4, 2) := by decide +kernel
theorem dL_law_366 : decode cL_law 366 = .ok (.iconst 2, 1) := by decide +kernel
theorem dL_law_367 : decode cL_law 367 = .ok (.iadd, 1) := by decide +kernel
theorem dL_law_368 : decode cL_law 368 = .ok (.iaload, 1) := by decide +kernel
theorem dL_law_369 : decode cL_law 369 = .ok (.aload_n 0, 1) := by decide +kernel
theorem dL_law_370 : decode cL_law 370 = .ok (.iload 4, 2) := by decide +kernel
theorem dL_law_372 : decode cL_law 372 = .ok (.iconst 3, 1) := by decide +kernel
theorem dL_law_373 : decode cL_law 373 = .ok (.iadd, 1) := by decide +kernel
theorem dL_law_374 : decode cL_law 374 = .ok (.iaload, 1) := by decide +kernel
theorem dL_law_375 : decode cL_law 375 = .ok (.invokevirtual 60, 3) := by decide +kernel
theorem dL_law_378 : decode cL_law 378 = .ok (.if_icmp .eq 660, 3) := by decide +kernel
theorem dL_law_381 : decode cL_law 381 = .ok (.iconst 0, 1) := by decide +kernel
theorem dL_law_382 : decode cL_law 382 = .ok (.ireturn, 1) := by decide +kernel
theorem dL_law_383 : decode cL_law 383 = .ok (.aload_n 1, 1) := by decide +kernel
theorem dL_law_384 : decode cL_law 384 = .ok (.aload_n 0, 1) := by decide +kernel
theorem dL_law_385 : decode cL_law 385 = .ok (.iload 4, 2) := by decide +kernel
theorem dL_law_387 : decode cL_law 387 = .ok (.iconst 1, 1) := by decide +kernel
theorem dL_law_388 : decode cL_law 388 = .ok (.iadd, 1) := by decide +kernel
theorem dL_law_389 : decode cL_law 389 = .ok (.iaload, 1) := by decide +kernel
theorem dL_law_390 : decode cL_law 390 = .ok (.aload_n 0, 1) := by decide +kernel
theorem dL_law_391 : decode cL_law 391 = .ok (.iload 4, 2) := by decide +kernel
theorem dL_law_393 : decode cL_law 393 = .ok (.iconst 2, 1) := by decide +kernel
theorem dL_law_394 : decode cL_law 394 = .ok (.iadd, 1) := by decide +kernel
theorem dL_law_395 : decode cL_law 395 = .ok (.iaload, 1) := by decide +kernel
theorem dL_law_396 : decode cL_law 396 = .ok (.aload_n 0, 1) := by decide +kernel
theorem dL_law_397 : decode cL_law 397 = .ok (.iload 4, 2) := by decide +kernel
theorem dL_law_399 : decode cL_law 399 = .ok (.iconst 3, 1) := by decide +kernel
theorem dL_law_400 : decode cL_law 400 = .ok (.iadd, 1) := by decide +kernel
theorem dL_law_401 : decode cL_law 401 = .ok (.iaload, 1) := by decide +kernel
theorem dL_law_402 : decode cL_law 402 = .ok (.aload_n 3, 1) := by decide +kernel
theorem dL_law_403 : decode cL_law 403 = .ok (.invokestatic 61, 3) := by decide +kernel
theorem dL_law_406 : decode cL_law 406 = .ok (.istore 5, 2) := by decide +kernel
theorem dL_law_408 : decode cL_law 408 = .ok (.aload_n 2, 1) := by decide +kernel
theorem dL_law_409 : decode cL_law 409 = .ok (.aload_n 0, 1) := by decide +kernel
theorem dL_law_410 : decode cL_law 410 = .ok (.iload 4, 2) := by decide +kernel
theorem dL_law_412 : decode cL_law 412 = .ok (.iconst 1, 1) := by decide +kernel
theorem dL_law_413 : decode cL_law 413 = .ok (.iadd, 1) := by decide +kernel
theorem dL_law_414 : decode cL_law 414 = .ok (.iaload, 1) := by decide +kernel
theorem dL_law_415 : decode cL_law 415 = .ok (.aload_n 0, 1) := by decide +kernel
theorem dL_law_416 : decode cL_law 416 = .ok (.iload 4, 2) := by decide +kernel
theorem dL_law_418 : decode cL_law 418 = .ok (.iconst 2, 1) := by decide +kernel
theorem dL_law_419 : decode cL_law 419 = .ok (.iadd, 1) := by decide +kernel
theorem dL_law_420 : decode cL_law 420 = .ok (.iaload, 1) := by decide +kernel
theorem dL_law_421 : decode cL_law 421 = .ok (.aload_n 0, 1) := by decide +kernel
theorem dL_law_422 : decode cL_law 422 = .ok (.iload 4, 2) := by decide +kernel
theorem dL_law_424 : decode cL_law 424 = .ok (.iconst 3, 1) := by decide +kernel
theorem dL_law_425 : decode cL_law 425 = .ok (.iadd, 1) := by decide +kernel
theorem dL_law_426 : decode cL_law 426 = .ok (.iaload, 1) := by decide +kernel
theorem dL_law_427 : decode cL_law 427 = .ok (.invokevirtual 66, 3) := by decide +kernel
theorem dL_law_430 : decode cL_law 430 = .ok (.istore 6, 2) := by decide +kernel
theorem dL_law_432 : decode cL_law 432 = .ok (.aload_n 2, 1) := by decide +kernel
theorem dL_law_433 : decode cL_law 433 = .ok (.invokevirtual 67, 3) := by decide +kernel
theorem dL_law_436 : decode cL_law 436 = .ok (.iload 5, 2) := by decide +kernel
theorem dL_law_438 : decode cL_law 438 = .ok (.if_icmp .eq 5, 3) := by decide +kernel
theorem dL_law_441 : decode cL_law 441 = .ok (.iconst 0, 1) := by decide +kernel
theorem dL_law_442 : decode cL_law 442 = .ok (.ireturn, 1) := by decide +kernel
theorem dL_law_443 : decode cL_law 443 = .ok (.iload 5, 2) := by decide +kernel
theorem dL_law_445 : decode cL_law 445 = .ok (.ifCond .ne 15, 3) := by decide +kernel
theorem dL_law_448 : decode cL_law 448 = .ok (.aload_n 3, 1) := by decide +kernel
theorem dL_law_449 : decode cL_law 449 = .ok (.iconst 0, 1) := by decide +kernel
theorem dL_law_450 : decode cL_law 450 = .ok (.laload, 1) := by decide +kernel
theorem dL_law_451 : decode cL_law 451 = .ok (.iload 6, 2) := by decide +kernel
theorem dL_law_453 : decode cL_law 453 = .ok (.i2l, 1) := by decide +kernel
theorem dL_law_454 : decode cL_law 454 = .ok (.lcmp, 1) := by decide +kernel
theorem dL_law_455 : decode cL_law 455 = .ok (.ifCond .eq 5, 3) := by decide +kernel
theorem dL_law_458 : decode cL_law 458 = .ok (.iconst 0, 1) := by decide +kernel
theorem dL_law_459 : decode cL_law 459 = .ok (.ireturn, 1) := by decide +kernel
theorem dL_law_460 : decode cL_law 460 = .ok (.goto 578, 3) := by decide +kernel
theorem dL_law_463 : decode cL_law 463 = .ok (.aload_n 1, 1) := by decide +kernel
theorem dL_law_464 : decode cL_law 464 = .ok (.aload_n 0, 1) := by decide +kernel
theorem dL_law_465 : decode cL_law 465 = .ok (.iload 4, 2) := by decide +kernel
theorem dL_law_467 : decode cL_law 467 = .ok (.iconst 1, 1) := by decide +kernel
theorem dL_law_468 : decode cL_law 468 = .ok (.iadd, 1) := by decide +kernel
theorem dL_law_469 : decode cL_law 469 = .ok (.iaload, 1) := by decide +kernel
theorem dL_law_470 : decode cL_law 470 = .ok (.aload_n 0, 1) := by decide +kernel
theorem dL_law_471 : decode cL_law 471 = .ok (.iload 4, 2) := by decide +kernel
theorem dL_law_473 : decode cL_law 473 = .ok (.iconst 2, 1) := by decide +kernel
theorem dL_law_474 : decode cL_law 474 = .ok (.iadd, 1) := by decide +kernel
theorem dL_law_475 : decode cL_law 475 = .ok (.iaload, 1) := by decide +kernel
theorem dL_law_476 : decode cL_law 476 = .ok (.invokevirtual 70, 3) := by decide +kernel
theorem dL_law_479 : decode cL_law 479 = .ok (.aload_n 2, 1) := by decide +kernel
theorem dL_law_480 : decode cL_law 480 = .ok (.aload_n 0, 1) := by decide +kernel
theorem dL_law_481 : decode cL_law 481 = .ok (.iload 4, 2) := by decide +kernel
theorem dL_law_483 : decode cL_law 483 = .ok (.iconst 1, 1) := by decide +kernel
theorem dL_law_484 : decode cL_law 484 = .ok (.iadd, 1) := by decide +kernel
theorem dL_law_485 : decode cL_law 485 = .ok (.iaload, 1) := by decide +kernel
theorem dL_law_486 : decode cL_law 486 = .ok (.aload_n 0, 1) := by decide +kernel
theorem dL_law_487 : decode cL_law 487 = .ok (.iload 4, 2) := by decide +kernel
theorem dL_law_489 : decode cL_law 489 = .ok (.iconst 2, 1) := by decide +kernel
theorem dL_law_490 : decode cL_law 490 = .ok (.iadd, 1) := by decide +kernel
theorem dL_law_491 : decode cL_law 491 = .ok (.iaload, 1) := by decide +kernel
theorem dL_law_492 : decode cL_law 492 = .ok (.invokevirtual 74, 3) := by decide +kernel
theorem dL_law_495 : decode cL_law 495 = .ok (.if_icmp .eq 543, 3) := by decide +kernel
theorem dL_law_498 : decode cL_law 498 = .ok (.iconst 0, 1) := by decide +kernel
theorem dL_law_499 : decode cL_law 499 = .ok (.ireturn, 1) := by decide +kernel
theorem dL_law_500 : decode cL_law 500 = .ok (.aload_n 1, 1) := by decide +kernel
theorem dL_law_501 : decode cL_law 501 = .ok (.aload_n 0, 1) := by decide +kernel
theorem dL_law_502 : decode cL_law 502 = .ok (.iload 4, 2) := by decide +kernel
theorem dL_law_504 : decode cL_law 504 = .ok (.iconst 1, 1) := by decide +kernel
theorem dL_law_505 : decode cL_law 505 = .ok (.iadd, 1) := by decide +kernel
theorem dL_law_506 : decode cL_law 506 = .ok (.iaload, 1) := by decide +kernel
theorem dL_law_507 : decode cL_law 507 = .ok (.aload_n 0, 1) := by decide +kernel
theorem dL_law_508 : decode cL_law 508 = .ok (.iload 4, 2) := by decide +kernel
theorem dL_law_510 : decode cL_law 510 = .ok (.iconst 2, 1) := by decide +kernel
theorem dL_law_511 : decode cL_law 511 = .ok (.iadd, 1) := by decide +kernel
theorem dL_law_512 : decode cL_law 512 = .ok (.iaload, 1) := by decide +kernel
theorem dL_law_513 : decode cL_law 513 = .ok (.aload_n 0, 1) := by decide +kernel
theorem dL_law_514 : decode cL_law 514 = .ok (.iload 4, 2) := by decide +kernel
theorem dL_law_516 : decode cL_law 516 = .ok (.iconst 3, 1) := by decide +kernel
theorem dL_law_517 : decode cL_law 517 = .ok (.iadd, 1) := by decide +kernel
theorem dL_law_518 : decode cL_law 518 = .ok (.iaload, 1) := by decide +kernel
theorem dL_law_519 : decode cL_law 519 = .ok (.aload_n 3, 1) := by decide +kernel
theorem dL_law_520 : decode cL_law 520 = .ok (.invokestatic 75, 3) := by decide +kernel
theorem dL_law_523 : decode cL_law 523 = .ok (.istore 5, 2) := by decide +kernel
theorem dL_law_525 : decode cL_law 525 = .ok (.aload_n 2, 1) := by decide +kernel
theorem dL_law_526 : decode cL_law 526 = .ok (.aload_n 0, 1) := by decide +kernel
theorem dL_law_527 : decode cL_law 527 = .ok (.iload 4, 2) := by decide +kernel
theorem dL_law_529 : decode cL_law 529 = .ok (.iconst 1, 1) := by decide +kernel
theorem dL_law_530 : decode cL_law 530 = .ok (.iadd, 1) := by decide +kernel
theorem dL_law_531 : decode cL_law 531 = .ok (.iaload, 1) := by decide +kernel
theorem dL_law_532 : decode cL_law 532 = .ok (.aload_n 0, 1) := by decide +kernel
theorem dL_law_533 : decode cL_law 533 = .ok (.iload 4, 2) := by decide +kernel
theorem dL_law_535 : decode cL_law 535 = .ok (.iconst 2, 1) := by decide +kernel
theorem dL_law_536 : decode cL_law 536 = .ok (.iadd, 1) := by decide +kernel
theorem dL_law_537 : decode cL_law 537 = .ok (.iaload, 1) := by decide +kernel
theorem dL_law_538 : decode cL_law 538 = .ok (.aload_n 0, 1) := by decide +kernel
theorem dL_law_539 : decode cL_law 539 = .ok (.iload 4, 2) := by decide +kernel
theorem dL_law_541 : decode cL_law 541 = .ok (.iconst 3, 1) := by decide +kernel
theorem dL_law_542 : decode cL_law 542 = .ok (.iadd, 1) := by decide +kernel
theorem dL_law_543 : decode cL_law 543 = .ok (.iaload, 1) := by decide +kernel
theorem dL_law_544 : decode cL_law 544 = .ok (.invokevirtual 77, 3) := by decide +kernel
theorem dL_law_547 : decode cL_law 547 = .ok (.istore 6, 2) := by decide +kernel
theorem dL_law_549 : decode cL_law 549 = .ok (.aload_n 2, 1) := by decide +kernel
theorem dL_law_550 : decode cL_law 550 = .ok (.invokevirtual 67, 3) := by decide +kernel
theorem dL_law_553 : decode cL_law 553 = .ok (.iload 5, 2) := by decide +kernel
theorem dL_law_555 : decode cL_law 555 = .ok (.if_icmp .eq 5, 3) := by decide +kernel
theorem dL_law_558 : decode cL_law 558 = .ok (.iconst 0, 1) := by decide +kernel
theorem dL_law_559 : decode cL_law 559 = .ok (.ireturn, 1) := by decide +kernel
theorem dL_law_560 : decode cL_law 560 = .ok (.iload 5, 2) := by decide +kernel
theorem dL_law_562 : decode cL_law 562 = .ok (.ifCond .ne 15, 3) := by decide +kernel
theorem dL_law_565 : decode cL_law 565 = .ok (.aload_n 3, 1) := by decide +kernel
theorem dL_law_566 : decode cL_law 566 = .ok (.iconst 0, 1) := by decide +kernel
theorem dL_law_567 : decode cL_law 567 = .ok (.laload, 1) := by decide +kernel
theorem dL_law_568 : decode cL_law 568 = .ok (.iload 6, 2) := by decide +kernel
theorem dL_law_570 : decode cL_law 570 = .ok (.i2l, 1) := by decide +kernel
theorem dL_law_571 : decode cL_law 571 = .ok (.lcmp, 1) := by decide +kernel
theorem dL_law_572 : decode cL_law 572 = .ok (.ifCond .eq 5, 3) := by decide +kernel
theorem dL_law_575 : decode cL_law 575 = .ok (.iconst 0, 1) := by decide +kernel
theorem dL_law_576 : decode cL_law 576 = .ok (.ireturn, 1) := by decide +kernel
theorem dL_law_577 : decode cL_law 577 = .ok (.goto 461, 3) := by decide +kernel
theorem dL_law_580 : decode cL_law 580 = .ok (.aload_n 1, 1) := by decide +kernel
theorem dL_law_581 : decode cL_law 581 = .ok (.aload_n 0, 1) := by decide +kernel
theorem dL_law_582 : decode cL_law 582 = .ok (.iload 4, 2) := by decide +kernel
theorem dL_law_584 : decode cL_law 584 = .ok (.iconst 1, 1) := by decide +kernel
theorem dL_law_585 : decode cL_law 585 = .ok (.iadd, 1) := by decide +kernel
theorem dL_law_586 : decode cL_law 586 = .ok (.iaload, 1) := by decide +kernel
theorem dL_law_587 : decode cL_law 587 = .ok (.aload_n 0, 1) := by decide +kernel
theorem dL_law_588 : decode cL_law 588 = .ok (.iload 4, 2) := by decide +kernel
theorem dL_law_590 : decode cL_law 590 = .ok (.iconst 2, 1) := by decide +kernel
theorem dL_law_591 : decode cL_law 591 = .ok (.iadd, 1) := by decide +kernel
theorem dL_law_592 : decode cL_law 592 = .ok (.iaload, 1) := by decide +kernel
theorem dL_law_593 : decode cL_law 593 = .ok (.aload_n 0, 1) := by decide +kernel
theorem dL_law_594 : decode cL_law 594 = .ok (.iload 4, 2) := by decide +kernel
theorem dL_law_596 : decode cL_law 596 = .ok (.iconst 3, 1) := by decide +kernel
theorem dL_law_597 : decode cL_law 597 = .ok (.iadd, 1) := by decide +kernel
theorem dL_law_598 : decode cL_law 598 = .ok (.iaload, 1) := by decide +kernel
theorem dL_law_599 : decode cL_law 599 = .ok (.invokevirtual 78, 3) := by decide +kernel
theorem dL_law_602 : decode cL_law 602 = .ok (.aload_n 2, 1) := by decide +kernel
theorem dL_law_603 : decode cL_law 603 = .ok (.aload_n 0, 1) := by decide +kernel
theorem dL_law_604 : decode cL_law 604 = .ok (.iload 4, 2) := by decide +kernel
theorem dL_law_606 : decode cL_law 606 = .ok (.iconst 1, 1) := by decide +kernel
theorem dL_law_607 : decode cL_law 607 = .ok (.iadd, 1) := by decide +kernel
theorem dL_law_608 : decode cL_law 608 = .ok (.iaload, 1) := by decide +kernel
theorem dL_law_609 : decode cL_law 609 = .ok (.aload_n 0, 1) := by decide +kernel
theorem dL_law_610 : decode cL_law 610 = .ok (.iload 4, 2) := by decide +kernel
theorem dL_law_612 : decode cL_law 612 = .ok (.iconst 2, 1) := by decide +kernel
theorem dL_law_613 : decode cL_law 613 = .ok (.iadd, 1) := by decide +kernel
theorem dL_law_614 : decode cL_law 614 = .ok (.iaload, 1) := by decide +kernel
theorem dL_law_615 : decode cL_law 615 = .ok (.aload_n 0, 1) := by decide +kernel
theorem dL_law_616 : decode cL_law 616 = .ok (.iload 4, 2) := by decide +kernel
theorem dL_law_618 : decode cL_law 618 = .ok (.iconst 3, 1) := by decide +kernel
theorem dL_law_619 : decode cL_law 619 = .ok (.iadd, 1) := by decide +kernel
theorem dL_law_620 : decode cL_law 620 = .ok (.iaload, 1) := by decide +kernel
theorem dL_law_621 : decode cL_law 621 = .ok (.invokevirtual 81, 3) := by decide +kernel
theorem dL_law_624 : decode cL_law 624 = .ok (.if_icmp .eq 414, 3) := by decide +kernel
theorem dL_law_627 : decode cL_law 627 = .ok (.iconst 0, 1) := by decide +kernel
theorem dL_law_628 : decode cL_law 628 = .ok (.ireturn, 1) := by decide +kernel
theorem dL_law_629 : decode cL_law 629 = .ok (.aload_n 1, 1) := by decide +kernel
theorem dL_law_630 : decode cL_law 630 = .ok (.aload_n 0, 1) := by decide +kernel
theorem dL_law_631 : decode cL_law 631 = .ok (.iload 4, 2) := by decide +kernel
theorem dL_law_633 : decode cL_law 633 = .ok (.iconst 1, 1) := by decide +kernel
theorem dL_law_634 : decode cL_law 634 = .ok (.iadd, 1) := by decide +kernel
theorem dL_law_635 : decode cL_law 635 = .ok (.iaload, 1) := by decide +kernel
theorem dL_law_636 : decode cL_law 636 = .ok (.aload_n 0, 1) := by decide +kernel
theorem dL_law_637 : decode cL_law 637 = .ok (.iload 4, 2) := by decide +kernel
theorem dL_law_639 : decode cL_law 639 = .ok (.iconst 2, 1) := by decide +kernel
theorem dL_law_640 : decode cL_law 640 = .ok (.iadd, 1) := by decide +kernel
theorem dL_law_641 : decode cL_law 641 = .ok (.iaload, 1) := by decide +kernel
theorem dL_law_642 : decode cL_law 642 = .ok (.invokevirtual 82, 3) := by decide +kernel
theorem dL_law_645 : decode cL_law 645 = .ok (.aload_n 2, 1) := by decide +kernel
theorem dL_law_646 : decode cL_law 646 = .ok (.aload_n 0, 1) := by decide +kernel
theorem dL_law_647 : decode cL_law 647 = .ok (.iload 4, 2) := by decide +kernel
theorem dL_law_649 : decode cL_law 649 = .ok (.iconst 1, 1) := by decide +kernel
theorem dL_law_650 : decode cL_law 650 = .ok (.iadd, 1) := by decide +kernel
theorem dL_law_651 : decode cL_law 651 = .ok (.iaload, 1) := by decide +kernel
theorem dL_law_652 : decode cL_law 652 = .ok (.aload_n 0, 1) := by decide +kernel
theorem dL_law_653 : decode cL_law 653 = .ok (.iload 4, 2) := by decide +kernel
theorem dL_law_655 : decode cL_law 655 = .ok (.iconst 2, 1) := by decide +kernel
theorem dL_law_656 : decode cL_law 656 = .ok (.iadd, 1) := by decide +kernel
theorem dL_law_657 : decode cL_law 657 = .ok (.iaload, 1) := by decide +kernel
theorem dL_law_658 : decode cL_law 658 = .ok (.invokevirtual 85, 3) := by decide +kernel
theorem dL_law_661 : decode cL_law 661 = .ok (.if_icmp .eq 377, 3) := by decide +kernel
theorem dL_law_664 : decode cL_law 664 = .ok (.iconst 0, 1) := by decide +kernel
theorem dL_law_665 : decode cL_law 665 = .ok (.ireturn, 1) := by decide +kernel
theorem dL_law_666 : decode cL_law 666 = .ok (.aload_n 1, 1) := by decide +kernel
theorem dL_law_667 : decode cL_law 667 = .ok (.aload_n 0, 1) := by decide +kernel
theorem dL_law_668 : decode cL_law 668 = .ok (.iload 4, 2) := by decide +kernel
theorem dL_law_670 : decode cL_law 670 = .ok (.iconst 1, 1) := by decide +kernel
theorem dL_law_671 : decode cL_law 671 = .ok (.iadd, 1) := by decide +kernel
theorem dL_law_672 : decode cL_law 672 = .ok (.iaload, 1) := by decide +kernel
theorem dL_law_673 : decode cL_law 673 = .ok (.aload_n 0, 1) := by decide +kernel
theorem dL_law_674 : decode cL_law 674 = .ok (.iload 4, 2) := by decide +kernel
theorem dL_law_676 : decode cL_law 676 = .ok (.iconst 2, 1) := by decide +kernel
theorem dL_law_677 : decode cL_law 677 = .ok (.iadd, 1) := by decide +kernel
theorem dL_law_678 : decode cL_law 678 = .ok (.iaload, 1) := by decide +kernel
theorem dL_law_679 : decode cL_law 679 = .ok (.invokevirtual 86, 3) := by decide +kernel
theorem dL_law_682 : decode cL_law 682 = .ok (.aload_n 2, 1) := by decide +kernel
theorem dL_law_683 : decode cL_law 683 = .ok (.aload_n 0, 1) := by decide +kernel
theorem dL_law_684 : decode cL_law 684 = .ok (.iload 4, 2) := by decide +kernel
theorem dL_law_686 : decode cL_law 686 = .ok (.iconst 1, 1) := by decide +kernel
theorem dL_law_687 : decode cL_law 687 = .ok (.iadd, 1) := by decide +kernel
theorem dL_law_688 : decode cL_law 688 = .ok (.iaload, 1) := by decide +kernel
theorem dL_law_689 : decode cL_law 689 = .ok (.aload_n 0, 1) := by decide +kernel
theorem dL_law_690 : decode cL_law 690 = .ok (.iload 4, 2) := by decide +kernel
theorem dL_law_692 : decode cL_law 692 = .ok (.iconst 2, 1) := by decide +kernel
theorem dL_law_693 : decode cL_law 693 = .ok (.iadd, 1) := by decide +kernel
theorem dL_law_694 : decode cL_law 694 = .ok (.iaload, 1) := by decide +kernel
theorem dL_law_695 : decode cL_law 695 = .ok (.invokevirtual 89, 3) := by decide +kernel
theorem dL_law_698 : decode cL_law 698 = .ok (.if_icmp .eq 340, 3) := by decide +kernel
theorem dL_law_701 : decode cL_law 701 = .ok (.iconst 0, 1) := by decide +kernel
theorem dL_law_702 : decode cL_law 702 = .ok (.ireturn, 1) := by decide +kernel
theorem dL_law_703 : decode cL_law 703 = .ok (.aload_n 1, 1) := by decide +kernel
theorem dL_law_704 : decode cL_law 704 = .ok (.aload_n 0, 1) := by decide +kernel
theorem dL_law_705 : decode cL_law 705 = .ok (.iload 4, 2) := by decide +kernel
theorem dL_law_707 : decode cL_law 707 = .ok (.iconst 1, 1) := by decide +kernel
theorem dL_law_708 : decode cL_law 708 = .ok (.iadd, 1) := by decide +kernel
theorem dL_law_709 : decode cL_law 709 = .ok (.iaload, 1) := by decide +kernel
theorem dL_law_710 : decode cL_law 710 = .ok (.aload_n 0, 1) := by decide +kernel
theorem dL_law_711 : decode cL_law 711 = .ok (.iload 4, 2) := by decide +kernel
theorem dL_law_713 : decode cL_law 713 = .ok (.iconst 2, 1) := by decide +kernel
theorem dL_law_714 : decode cL_law 714 = .ok (.iadd, 1) := by decide +kernel
theorem dL_law_715 : decode cL_law 715 = .ok (.iaload, 1) := by decide +kernel
theorem dL_law_716 : decode cL_law 716 = .ok (.aload_n 3, 1) := by decide +kernel
theorem dL_law_717 : decode cL_law 717 = .ok (.invokestatic 90, 3) := by decide +kernel
theorem dL_law_720 : decode cL_law 720 = .ok (.istore 5, 2) := by decide +kernel
theorem dL_law_722 : decode cL_law 722 = .ok (.aload_n 2, 1) := by decide +kernel
theorem dL_law_723 : decode cL_law 723 = .ok (.aload_n 0, 1) := by decide +kernel
theorem dL_law_724 : decode cL_law 724 = .ok (.iload 4, 2) := by decide +kernel
theorem dL_law_726 : decode cL_law 726 = .ok (.iconst 1, 1) := by decide +kernel
theorem dL_law_727 : decode cL_law 727 = .ok (.iadd, 1) := by decide +kernel
theorem dL_law_728 : decode cL_law 728 = .ok (.iaload, 1) := by decide +kernel
theorem dL_law_729 : decode cL_law 729 = .ok (.aload_n 0, 1) := by decide +kernel
theorem dL_law_730 : decode cL_law 730 = .ok (.iload 4, 2) := by decide +kernel
theorem dL_law_732 : decode cL_law 732 = .ok (.iconst 2, 1) := by decide +kernel
theorem dL_law_733 : decode cL_law 733 = .ok (.iadd, 1) := by decide +kernel
theorem dL_law_734 : decode cL_law 734 = .ok (.iaload, 1) := by decide +kernel
theorem dL_law_735 : decode cL_law 735 = .ok (.invokevirtual 93, 3) := by decide +kernel
theorem dL_law_738 : decode cL_law 738 = .ok (.lstore 6, 2) := by decide +kernel
theorem dL_law_740 : decode cL_law 740 = .ok (.aload_n 2, 1) := by decide +kernel
theorem dL_law_741 : decode cL_law 741 = .ok (.invokevirtual 67, 3) := by decide +kernel
theorem dL_law_744 : decode cL_law 744 = .ok (.iload 5, 2) := by decide +kernel
theorem dL_law_746 : decode cL_law 746 = .ok (.if_icmp .eq 5, 3) := by decide +kernel
theorem dL_law_749 : decode cL_law 749 = .ok (.iconst 0, 1) := by decide +kernel
theorem dL_law_750 : decode cL_law 750 = .ok (.ireturn, 1) := by decide +kernel
theorem dL_law_751 : decode cL_law 751 = .ok (.iload 5, 2) := by decide +kernel
theorem dL_law_753 : decode cL_law 753 = .ok (.ifCond .ne 14, 3) := by decide +kernel
theorem dL_law_756 : decode cL_law 756 = .ok (.aload_n 3, 1) := by decide +kernel
theorem dL_law_757 : decode cL_law 757 = .ok (.iconst 0, 1) := by decide +kernel
theorem dL_law_758 : decode cL_law 758 = .ok (.laload, 1) := by decide +kernel
theorem dL_law_759 : decode cL_law 759 = .ok (.lload 6, 2) := by decide +kernel
theorem dL_law_761 : decode cL_law 761 = .ok (.lcmp, 1) := by decide +kernel
theorem dL_law_762 : decode cL_law 762 = .ok (.ifCond .eq 5, 3) := by decide +kernel
theorem dL_law_765 : decode cL_law 765 = .ok (.iconst 0, 1) := by decide +kernel
theorem dL_law_766 : decode cL_law 766 = .ok (.ireturn, 1) := by decide +kernel
theorem dL_law_767 : decode cL_law 767 = .ok (.goto 271, 3) := by decide +kernel
theorem dL_law_770 : decode cL_law 770 = .ok (.aload_n 1, 1) := by decide +kernel
theorem dL_law_771 : decode cL_law 771 = .ok (.aload_n 0, 1) := by decide +kernel
theorem dL_law_772 : decode cL_law 772 = .ok (.iload 4, 2) := by decide +kernel
theorem dL_law_774 : decode cL_law 774 = .ok (.iconst 1, 1) := by decide +kernel
theorem dL_law_775 : decode cL_law 775 = .ok (.iadd, 1) := by decide +kernel
theorem dL_law_776 : decode cL_law 776 = .ok (.iaload, 1) := by decide +kernel
theorem dL_law_777 : decode cL_law 777 = .ok (.aload_n 0, 1) := by decide +kernel
theorem dL_law_778 : decode cL_law 778 = .ok (.iload 4, 2) := by decide +kernel
theorem dL_law_780 : decode cL_law 780 = .ok (.iconst 2, 1) := by decide +kernel
theorem dL_law_781 : decode cL_law 781 = .ok (.iadd, 1) := by decide +kernel
theorem dL_law_782 : decode cL_law 782 = .ok (.iaload, 1) := by decide +kernel
theorem dL_law_783 : decode cL_law 783 = .ok (.aload_n 3, 1) := by decide +kernel
theorem dL_law_784 : decode cL_law 784 = .ok (.invokestatic 94, 3) := by decide +kernel
theorem dL_law_787 : decode cL_law 787 = .ok (.istore 5, 2) := by decide +kernel
theorem dL_law_789 : decode cL_law 789 = .ok (.aload_n 2, 1) := by decide +kernel
theorem dL_law_790 : decode cL_law 790 = .ok (.aload_n 0, 1) := by decide +kernel
theorem dL_law_791 : decode cL_law 791 = .ok (.iload 4, 2) := by decide +kernel
theorem dL_law_793 : decode cL_law 793 = .ok (.iconst 1, 1) := by decide +kernel
theorem dL_law_794 : decode cL_law 794 = .ok (.iadd, 1) := by decide +kernel
theorem dL_law_795 : decode cL_law 795 = .ok (.iaload, 1) := by decide +kernel
theorem dL_law_796 : decode cL_law 796 = .ok (.aload_n 0, 1) := by decide +kernel
theorem dL_law_797 : decode cL_law 797 = .ok (.iload 4, 2) := by decide +kernel
theorem dL_law_799 : decode cL_law 799 = .ok (.iconst 2, 1) := by decide +kernel
theorem dL_law_800 : decode cL_law 800 = .ok (.iadd, 1) := by decide +kernel
theorem dL_law_801 : decode cL_law 801 = .ok (.iaload, 1) := by decide +kernel
theorem dL_law_802 : decode cL_law 802 = .ok (.invokevirtual 96, 3) := by decide +kernel
theorem dL_law_805 : decode cL_law 805 = .ok (.lstore 6, 2) := by decide +kernel
theorem dL_law_807 : decode cL_law 807 = .ok (.aload_n 2, 1) := by decide +kernel
theorem dL_law_808 : decode cL_law 808 = .ok (.invokevirtual 67, 3) := by decide +kernel
theorem dL_law_811 : decode cL_law 811 = .ok (.iload 5, 2) := by decide +kernel
theorem dL_law_813 : decode cL_law 813 = .ok (.if_icmp .eq 5, 3) := by decide +kernel
theorem dL_law_816 : decode cL_law 816 = .ok (.iconst 0, 1) := by decide +kernel
theorem dL_law_817 : decode cL_law 817 = .ok (.ireturn, 1) := by decide +kernel
theorem dL_law_818 : decode cL_law 818 = .ok (.iload 5, 2) := by decide +kernel
theorem dL_law_820 : decode cL_law 820 = .ok (.ifCond .ne 14, 3) := by decide +kernel
theorem dL_law_823 : decode cL_law 823 = .ok (.aload_n 3, 1) := by decide +kernel
theorem dL_law_824 : decode cL_law 824 = .ok (.iconst 0, 1) := by decide +kernel
theorem dL_law_825 : decode cL_law 825 = .ok (.laload, 1) := by decide +kernel
theorem dL_law_826 : decode cL_law 826 = .ok (.lload 6, 2) := by decide +kernel
theorem dL_law_828 : decode cL_law 828 = .ok (.lcmp, 1) := by decide +kernel
theorem dL_law_829 : decode cL_law 829 = .ok (.ifCond .eq 5, 3) := by decide +kernel
theorem dL_law_832 : decode cL_law 832 = .ok (.iconst 0, 1) := by decide +kernel
theorem dL_law_833 : decode cL_law 833 = .ok (.ireturn, 1) := by decide +kernel
theorem dL_law_834 : decode cL_law 834 = .ok (.goto 204, 3) := by decide +kernel
theorem dL_law_837 : decode cL_law 837 = .ok (.aload_n 1, 1) := by decide +kernel
theorem dL_law_838 : decode cL_law 838 = .ok (.aload_n 0, 1) := by decide +kernel
theorem dL_law_839 : decode cL_law 839 = .ok (.iload 4, 2) := by decide +kernel
theorem dL_law_841 : decode cL_law 841 = .ok (.iconst 1, 1) := by decide +kernel
theorem dL_law_842 : decode cL_law 842 = .ok (.iadd, 1) := by decide +kernel
theorem dL_law_843 : decode cL_law 843 = .ok (.iaload, 1) := by decide +kernel
theorem dL_law_844 : decode cL_law 844 = .ok (.aload_n 0, 1) := by decide +kernel
theorem dL_law_845 : decode cL_law 845 = .ok (.iload 4, 2) := by decide +kernel
theorem dL_law_847 : decode cL_law 847 = .ok (.iconst 2, 1) := by decide +kernel
theorem dL_law_848 : decode cL_law 848 = .ok (.iadd, 1) := by decide +kernel
theorem dL_law_849 : decode cL_law 849 = .ok (.iaload, 1) := by decide +kernel
theorem dL_law_850 : decode cL_law 850 = .ok (.aload_n 0, 1) := by decide +kernel
theorem dL_law_851 : decode cL_law 851 = .ok (.iload 4, 2) := by decide +kernel
theorem dL_law_853 : decode cL_law 853 = .ok (.iconst 3, 1) := by decide +kernel
theorem dL_law_854 : decode cL_law 854 = .ok (.iadd, 1) := by decide +kernel
theorem dL_law_855 : decode cL_law 855 = .ok (.iaload, 1) := by decide +kernel
theorem dL_law_856 : decode cL_law 856 = .ok (.aload_n 0, 1) := by decide +kernel
theorem dL_law_857 : decode cL_law 857 = .ok (.iload 4, 2) := by decide +kernel
theorem dL_law_859 : decode cL_law 859 = .ok (.iconst 4, 1) := by decide +kernel
theorem dL_law_860 : decode cL_law 860 = .ok (.iadd, 1) := by decide +kernel
theorem dL_law_861 : decode cL_law 861 = .ok (.iaload, 1) := by decide +kernel
theorem dL_law_862 : decode cL_law 862 = .ok (.ifCond .eq 7, 3) := by decide +kernel
theorem dL_law_865 : decode cL_law 865 = .ok (.iconst 1, 1) := by decide +kernel
theorem dL_law_866 : decode cL_law 866 = .ok (.goto 4, 3) := by decide +kernel
theorem dL_law_869 : decode cL_law 869 = .ok (.iconst 0, 1) := by decide +kernel
theorem dL_law_870 : decode cL_law 870 = .ok (.invokevirtual 97, 3) := by decide +kernel
theorem dL_law_873 : decode cL_law 873 = .ok (.aload_n 2, 1) := by decide +kernel
theorem dL_law_874 : decode cL_law 874 = .ok (.aload_n 0, 1) := by decide +kernel
theorem dL_law_875 : decode cL_law 875 = .ok (.iload 4, 2) := by decide +kernel
theorem dL_law_877 : decode cL_law 877 = .ok (.iconst 1, 1) := by decide +kernel
theorem dL_law_878 : decode cL_law 878 = .ok (.iadd, 1) := by decide +kernel
theorem dL_law_879 : decode cL_law 879 = .ok (.iaload, 1) := by decide +kernel
theorem dL_law_880 : decode cL_law 880 = .ok (.aload_n 0, 1) := by decide +kernel
theorem dL_law_881 : decode cL_law 881 = .ok (.iload 4, 2) := by decide +kernel
theorem dL_law_883 : decode cL_law 883 = .ok (.iconst 2, 1) := by decide +kernel
theorem dL_law_884 : decode cL_law 884 = .ok (.iadd, 1) := by decide +kernel
theorem dL_law_885 : decode cL_law 885 = .ok (.iaload, 1) := by decide +kernel
theorem dL_law_886 : decode cL_law 886 = .ok (.aload_n 0, 1) := by decide +kernel
theorem dL_law_887 : decode cL_law 887 = .ok (.iload 4, 2) := by decide +kernel
theorem dL_law_889 : decode cL_law 889 = .ok (.iconst 3, 1) := by decide +kernel
theorem dL_law_890 : decode cL_law 890 = .ok (.iadd, 1) := by decide +kernel
theorem dL_law_891 : decode cL_law 891 = .ok (.iaload, 1) := by decide +kernel
theorem dL_law_892 : decode cL_law 892 = .ok (.aload_n 0, 1) := by decide +kernel
theorem dL_law_893 : decode cL_law 893 = .ok (.iload 4, 2) := by decide +kernel
theorem dL_law_895 : decode cL_law 895 = .ok (.iconst 4, 1) := by decide +kernel
theorem dL_law_896 : decode cL_law 896 = .ok (.iadd, 1) := by decide +kernel
theorem dL_law_897 : decode cL_law 897 = .ok (.iaload, 1) := by decide +kernel
theorem dL_law_898 : decode cL_law 898 = .ok (.ifCond .eq 7, 3) := by decide +kernel
theorem dL_law_901 : decode cL_law 901 = .ok (.iconst 1, 1) := by decide +kernel
theorem dL_law_902 : decode cL_law 902 = .ok (.goto 4, 3) := by decide +kernel
theorem dL_law_905 : decode cL_law 905 = .ok (.iconst 0, 1) := by decide +kernel
theorem dL_law_906 : decode cL_law 906 = .ok (.invokevirtual 101, 3) := by decide +kernel
theorem dL_law_909 : decode cL_law 909 = .ok (.if_icmp .eq 129, 3) := by decide +kernel
theorem dL_law_912 : decode cL_law 912 = .ok (.iconst 0, 1) := by decide +kernel
theorem dL_law_913 : decode cL_law 913 = .ok (.ireturn, 1) := by decide +kernel
theorem dL_law_914 : decode cL_law 914 = .ok (.aload_n 1, 1) := by decide +kernel
theorem dL_law_915 : decode cL_law 915 = .ok (.aload_n 0, 1) := by decide +kernel
theorem dL_law_916 : decode cL_law 916 = .ok (.iload 4, 2) := by decide +kernel
theorem dL_law_918 : decode cL_law 918 = .ok (.iconst 1, 1) := by decide +kernel
theorem dL_law_919 : decode cL_law 919 = .ok (.iadd, 1) := by decide +kernel
theorem dL_law_920 : decode cL_law 920 = .ok (.iaload, 1) := by decide +kernel
theorem dL_law_921 : decode cL_law 921 = .ok (.aload_n 0, 1) := by decide +kernel
theorem dL_law_922 : decode cL_law 922 = .ok (.iload 4, 2) := by decide +kernel
theorem dL_law_924 : decode cL_law 924 = .ok (.iconst 2, 1) := by decide +kernel
theorem dL_law_925 : decode cL_law 925 = .ok (.iadd, 1) := by decide +kernel
theorem dL_law_926 : decode cL_law 926 = .ok (.iaload, 1) := by decide +kernel
theorem dL_law_927 : decode cL_law 927 = .ok (.aload_n 0, 1) := by decide +kernel
theorem dL_law_928 : decode cL_law 928 = .ok (.iload 4, 2) := by decide +kernel
theorem dL_law_930 : decode cL_law 930 = .ok (.iconst 3, 1) := by decide +kernel
theorem dL_law_931 : decode cL_law 931 = .ok (.iadd, 1) := by decide +kernel
theorem dL_law_932 : decode cL_law 932 = .ok (.iaload, 1) := by decide +kernel
theorem dL_law_933 : decode cL_law 933 = .ok (.invokevirtual 102, 3) := by decide +kernel
theorem dL_law_936 : decode cL_law 936 = .ok (.aload_n 2, 1) := by decide +kernel
theorem dL_law_937 : decode cL_law 937 = .ok (.aload_n 0, 1) := by decide +kernel
theorem dL_law_938 : decode cL_law 938 = .ok (.iload 4, 2) := by decide +kernel
theorem dL_law_940 : decode cL_law 940 = .ok (.iconst 1, 1) := by decide +kernel
theorem dL_law_941 : decode cL_law 941 = .ok (.iadd, 1) := by decide +kernel
theorem dL_law_942 : decode cL_law 942 = .ok (.iaload, 1) := by decide +kernel
theorem dL_law_943 : decode cL_law 943 = .ok (.aload_n 0, 1) := by decide +kernel
theorem dL_law_944 : decode cL_law 944 = .ok (.iload 4, 2) := by decide +kernel
theorem dL_law_946 : decode cL_law 946 = .ok (.iconst 2, 1) := by decide +kernel
theorem dL_law_947 : decode cL_law 947 = .ok (.iadd, 1) := by decide +kernel
theorem dL_law_948 : decode cL_law 948 = .ok (.iaload, 1) := by decide +kernel
theorem dL_law_949 : decode cL_law 949 = .ok (.aload_n 0, 1) := by decide +kernel
theorem dL_law_950 : decode cL_law 950 = .ok (.iload 4, 2) := by decide +kernel
theorem dL_law_952 : decode cL_law 952 = .ok (.iconst 3, 1) := by decide +kernel
theorem dL_law_953 : decode cL_law 953 = .ok (.iadd, 1) := by decide +kernel
theorem dL_law_954 : decode cL_law 954 = .ok (.iaload, 1) := by decide +kernel
theorem dL_law_955 : decode cL_law 955 = .ok (.invokevirtual 105, 3) := by decide +kernel
theorem dL_law_958 : decode cL_law 958 = .ok (.if_icmp .eq 80, 3) := by decide +kernel
theorem dL_law_961 : decode cL_law 961 = .ok (.iconst 0, 1) := by decide +kernel
theorem dL_law_962 : decode cL_law 962 = .ok (.ireturn, 1) := by decide +kernel
theorem dL_law_963 : decode cL_law 963 = .ok (.aload_n 1, 1) := by decide +kernel
theorem dL_law_964 : decode cL_law 964 = .ok (.aload_n 0, 1) := by decide +kernel
theorem dL_law_965 : decode cL_law 965 = .ok (.iload 4, 2) := by decide +kernel
theorem dL_law_967 : decode cL_law 967 = .ok (.iconst 1, 1) := by decide +kernel
theorem dL_law_968 : decode cL_law 968 = .ok (.iadd, 1) := by decide +kernel
theorem dL_law_969 : decode cL_law 969 = .ok (.iaload, 1) := by decide +kernel
theorem dL_law_970 : decode cL_law 970 = .ok (.aload_n 0, 1) := by decide +kernel
theorem dL_law_971 : decode cL_law 971 = .ok (.iload 4, 2) := by decide +kernel
theorem dL_law_973 : decode cL_law 973 = .ok (.iconst 2, 1) := by decide +kernel
theorem dL_law_974 : decode cL_law 974 = .ok (.iadd, 1) := by decide +kernel
theorem dL_law_975 : decode cL_law 975 = .ok (.iaload, 1) := by decide +kernel
theorem dL_law_976 : decode cL_law 976 = .ok (.aload_n 0, 1) := by decide +kernel
theorem dL_law_977 : decode cL_law 977 = .ok (.iload 4, 2) := by decide +kernel
theorem dL_law_979 : decode cL_law 979 = .ok (.iconst 3, 1) := by decide +kernel
theorem dL_law_980 : decode cL_law 980 = .ok (.iadd, 1) := by decide +kernel
theorem dL_law_981 : decode cL_law 981 = .ok (.iaload, 1) := by decide +kernel
theorem dL_law_982 : decode cL_law 982 = .ok (.invokevirtual 106, 3) := by decide +kernel
theorem dL_law_985 : decode cL_law 985 = .ok (.aload_n 2, 1) := by decide +kernel
theorem dL_law_986 : decode cL_law 986 = .ok (.aload_n 0, 1) := by decide +kernel
theorem dL_law_987 : decode cL_law 987 = .ok (.iload 4, 2) := by decide +kernel
theorem dL_law_989 : decode cL_law 989 = .ok (.iconst 1, 1) := by decide +kernel
theorem dL_law_990 : decode cL_law 990 = .ok (.iadd, 1) := by decide +kernel
theorem dL_law_991 : decode cL_law 991 = .ok (.iaload, 1) := by decide +kernel
theorem dL_law_992 : decode cL_law 992 = .ok (.aload_n 0, 1) := by decide +kernel
theorem dL_law_993 : decode cL_law 993 = .ok (.iload 4, 2) := by decide +kernel
theorem dL_law_995 : decode cL_law 995 = .ok (.iconst 2, 1) := by decide +kernel
theorem dL_law_996 : decode cL_law 996 = .ok (.iadd, 1) := by decide +kernel
theorem dL_law_997 : decode cL_law 997 = .ok (.iaload, 1) := by decide +kernel
theorem dL_law_998 : decode cL_law 998 = .ok (.aload_n 0, 1) := by decide +kernel
theorem dL_law_999 : decode cL_law 999 = .ok (.iload 4, 2) := by decide +kernel
theorem dL_law_1001 : decode cL_law 1001 = .ok (.iconst 3, 1) := by decide +kernel
theorem dL_law_1002 : decode cL_law 1002 = .ok (.iadd, 1) := by decide +kernel
theorem dL_law_1003 : decode cL_law 1003 = .ok (.iaload, 1) := by decide +kernel
theorem dL_law_1004 : decode cL_law 1004 = .ok (.invokevirtual 109, 3) := by decide +kernel
theorem dL_law_1007 : decode cL_law 1007 = .ok (.if_icmp .eq 31, 3) := by decide +kernel
theorem dL_law_1010 : decode cL_law 1010 = .ok (.iconst 0, 1) := by decide +kernel
theorem dL_law_1011 : decode cL_law 1011 = .ok (.ireturn, 1) := by decide +kernel
theorem dL_law_1012 : decode cL_law 1012 = .ok (.aload_n 1, 1) := by decide +kernel
theorem dL_law_1013 : decode cL_law 1013 = .ok (.invokevirtual 110, 3) := by decide +kernel
theorem dL_law_1016 : decode cL_law 1016 = .ok (.aload_n 2, 1) := by decide +kernel
theorem dL_law_1017 : decode cL_law 1017 = .ok (.invokevirtual 113, 3) := by decide +kernel
theorem dL_law_1020 : decode cL_law 1020 = .ok (.if_icmp .eq 18, 3) := by decide +kernel
theorem dL_law_1023 : decode cL_law 1023 = .ok (.iconst 0, 1) := by decide +kernel
theorem dL_law_1024 : decode cL_law 1024 = .ok (.ireturn, 1) := by decide +kernel
theorem dL_law_1025 : decode cL_law 1025 = .ok (.aload_n 1, 1) := by decide +kernel
theorem dL_law_1026 : decode cL_law 1026 = .ok (.invokevirtual 114, 3) := by decide +kernel
theorem dL_law_1029 : decode cL_law 1029 = .ok (.aload_n 2, 1) := by decide +kernel
theorem dL_law_1030 : decode cL_law 1030 = .ok (.invokevirtual 117, 3) := by decide +kernel
theorem dL_law_1033 : decode cL_law 1033 = .ok (.if_icmp .eq 5, 3) := by decide +kernel
theorem dL_law_1036 : decode cL_law 1036 = .ok (.iconst 0, 1) := by decide +kernel
theorem dL_law_1037 : decode cL_law 1037 = .ok (.ireturn, 1) := by decide +kernel
theorem dL_law_1038 : decode cL_law 1038 = .ok (.iinc 4 6, 3) := by decide +kernel
theorem dL_law_1041 : decode cL_law 1041 = .ok (.goto (-1018), 3) := by decide +kernel
theorem dL_law_1044 : decode cL_law 1044 = .ok (.iconst 1, 1) := by decide +kernel
theorem dL_law_1045 : decode cL_law 1045 = .ok (.ireturn, 1) := by decide +kernel
end
section
/-! ===== my own layer: one world of numbered cells, a memory of ints and longs; one list of words for all methods ===== -/
def GG : List Cond := lw_tbl.filter goodWord
theorem GG_good : ∀ w ∈ GG, goodWord w = true := fun w h => (List.mem_filter.mp h).2
theorem GG_tbl : ∀ w ∈ GG, w ∈ lw_tbl := fun w h => (List.mem_filter.mp h).1
theorem GG_mem {w : Cond} (i : Nat) (h : lw_tbl[i]? = some w) (hg : goodWord w = true) : w ∈ GG := List.mem_filter.mpr ⟨List.mem_of_getElem? h, hg⟩
theorem GG_in {c : Cond} (hc : c ∈ GG) : GoodIn GG (c :: GG) := fun w h => by
  rcases List.mem_cons.mp h with rfl | h
  · exact ⟨hc, good_of_word (GG_good _ hc)⟩
  · exact ⟨h, good_of_word (GG_good _ h)⟩
theorem GG_inV {own : String} {idx : Nat} {C : String} {y : MethodName} {c : Cond} (h1 : Cond.methodLink own idx y ∈ GG) (h2 : Cond.instanceMethod y ∈ GG) (h3 : Cond.selects C y y ∈ GG) (h4 : Cond.initialized C ∈ GG) (hc : c ∈ GG) : GoodIn GG (wsV own idx C y (c :: GG)) := fun w h => by
  rcases List.mem_append.mp h with h | h
  · have hw : w ∈ GG := by
      rcases List.mem_cons.mp h with rfl | h
      · exact h1
      · rcases List.mem_cons.mp h with rfl | h
        · exact h2
        · rcases List.mem_cons.mp h with rfl | h
          · exact h3
          · rcases List.mem_cons.mp h with rfl | h
            · exact h4
            · exact absurd h List.not_mem_nil
    exact ⟨hw, good_of_word (GG_good _ hw)⟩
  · exact GG_in hc w h
theorem GG_inS {own : String} {idx : Nat} {y : MethodName} {c : Cond} (h1 : Cond.methodLink own idx y ∈ GG) (h2 : Cond.static y ∈ GG) (h3 : Cond.initialized y.cls ∈ GG) (hc : c ∈ GG) : GoodIn GG (va_wsS own idx y (c :: GG)) := fun w h => by
  rcases List.mem_append.mp h with h | h
  · have hw : w ∈ GG := by
      rcases List.mem_cons.mp h with rfl | h
      · exact h1
      · rcases List.mem_cons.mp h with rfl | h
        · exact h2
        · rcases List.mem_cons.mp h with rfl | h
          · exact h3
          · exact absurd h List.not_mem_nil
    exact ⟨hw, good_of_word (GG_good _ hw)⟩
  · exact GG_in hc w h
/-- the words of nest mates' links: they ride in the start of a contract -/
def isNest : Cond → Bool
  | .fieldLinkNest .. => true
  | .methodLinkNest .. => true
  | _ => false
def NW (U : State) : Prop := ∀ w ∈ lw_tbl, isNest w = true → va_Nw w U
theorem NW.of {args : Array Value} {s : State} (h : ∀ w ∈ lw_tbl, w.before args s = true) : NW s := fun w hw hn => by
  refine va_Nw.of (A := args) ?_ (h w hw)
  cases w <;> first | rfl | (simp [isNest] at hn)
theorem NW.warm {s U : State} (hW : s.WarmedH U.vm) (h : NW s) : NW U := fun w hw hn => by
  have h1 := h w hw hn
  cases w <;> first | exact va_Nw.warmF hW h1 | exact va_Nw.warmM hW h1 | (simp [isNest] at hn)
theorem NW.same {u U : State} (hv : u.vm = U.vm) (h : NW u) : NW U := fun w hw hn => by
  have h1 := h w hw hn
  cases w <;> first | exact va_Nw.same rfl hv h1 | (simp [isNest] at hn)
theorem NW.get {s : State} {w : Cond} (h : NW s) (i : Nat) (hi : lw_tbl[i]? = some w) (hn : isNest w = true) : va_Nw w s := h w (List.mem_of_getElem? hi) hn
/-- the cells: number k lies at ad k and holds cf k (its ints) (its longs) -/
abbrev MI : Type := Nat → Nat → Int32
abbrev ML : Type := Nat → Nat → Int64
abbrev CF : Type := Nat → (Nat → Int32) → (Nat → Int64) → va_E
def wdl (N : Nat) (ad : Nat → Nat) (cf : CF) (σ : MI) (τ : ML) : va_W := (List.range N).map (fun k => (ad k, cf k (σ k) (τ k)))
def s2 (σ : MI) (k j : Nat) (v : Int32) : MI := va_up σ k (upd (σ k) j v)
def s2L (τ : ML) (k j : Nat) (v : Int64) : ML := va_up τ k (vp_updL (τ k) j v)
theorem wdl_get {N : Nat} {ad : Nat → Nat} {cf : CF} {σ : MI} {τ : ML} {k : Nat} {e : va_E} (hk : k < N) (h : cf k (σ k) (τ k) = e) : (wdl N ad cf σ τ)[k]? = some (ad k, e) := by
  subst h
  simp [wdl, hk]
theorem va_up_same {α : Type} (f : Nat → α) (k : Nat) : va_up f k (f k) = f := by
  funext j
  by_cases h : j = k
  · subst h; exact va_up_self f j _
  · exact va_up_ne f _ h
theorem wdl_set {N : Nat} {ad : Nat → Nat} {cf : CF} {σ : MI} {τ : ML} {k : Nat} {x : Nat → Int32} {y : Nat → Int64} : (wdl N ad cf σ τ).set k (ad k, cf k x y) = wdl N ad cf (va_up σ k x) (va_up τ k y) := by
  apply List.ext_getElem?
  intro i
  by_cases hi : i = k
  · subst hi
    by_cases h : i < N
    · simp [wdl, h, va_up]
    · simp [wdl, h]
  · rw [List.getElem?_set_ne (Ne.symm hi)]
    by_cases h : i < N
    · simp [wdl, h, va_up, hi]
    · simp [wdl, h]
def PW (D : va_G) (N : Nat) (ad : Nat → Nat) (cf : CF) (σ : MI) (τ : ML) (H : Heap) : Prop := va_P D vwCl (wdl N ad cf σ τ) H
def AA (N : Nat) (ad : Nat → Nat) : Nat → Prop := fun q => ∃ k, k < N ∧ q = ad k
def Inj (N : Nat) (ad : Nat → Nat) : Prop := ∀ i j, i < N → j < N → ad i = ad j → i = j
theorem wdl_D {N : Nat} {ad : Nat → Nat} {cf : CF} (σ : MI) (τ : ML) (h : Inj N ad) : va_D (AA N ad) (wdl N ad cf σ τ) := by
  have e : ∀ (k : Nat) (q : Nat × va_E), (wdl N ad cf σ τ)[k]? = some q → k < N ∧ q.1 = ad k := by
    intro k q hq
    by_cases hk : k < N
    · rw [wdl_get hk rfl] at hq
      cases hq
      exact ⟨hk, rfl⟩
    · simp [wdl, hk] at hq
  refine ⟨fun i j p q hp hq hpq => ?_, fun k q hq => ?_⟩
  · obtain ⟨h1, h2⟩ := e i p hp
    obtain ⟨h3, h4⟩ := e j q hq
    exact h i j h1 h3 (by rw [← h2, ← h4]; exact hpq)
  · obtain ⟨h1, h2⟩ := e k q hq
    exact ⟨k, h1, h2⟩
def b2i (b : Bool) : Int32 := if b then 1 else 0
/-- a contract: from the memory σ, τ the method returns v, the memory is σ', τ', as post says -/
abbrev Post : Type := Option Value → MI → ML → Prop
def PreC (D : va_G) (tys : List (ClassId × FieldType)) (N : Nat) (ad : Nat → Nat) (cf : CF) (σ : MI) (τ : ML) (U : State) : Prop := PW D N ad cf σ τ U.heap ∧ va_K D vwCl tys U ∧ NW U
def QD (D : va_G) (N : Nat) (ad : Nat → Nat) (cf : CF) (post : Post) : Array Value → State → Outcome → State → Prop := fun _ st oc t => (∃ (v : Option Value) (σ' : MI) (τ' : ML), oc = .returned v ∧ post v σ' τ' ∧ PW D N ad cf σ' τ' t.heap) ∧ va_F (AA N ad) st t
def CT (l : Launch) (D : va_G) (tys : List (ClassId × FieldType)) (N : Nat) (ad : Nat → Nat) (cf : CF) (y : MethodName) (cc : ByteArray) (nL : Nat) (ret : Option FieldType) (fr lo : Nat) (as : List Value) (σ : MI) (τ : ML) (post : Post) : Prop :=
  Met l y (Cond.code y cc nL ret :: GG) { frames := fr, cells := 0, slots := 0, locals := lo } (va_Pc as (PreC D tys N ad cf σ τ)) (QD D N ad cf post) 0 0 (AA N ad)
theorem PreC.blind {D : va_G} {tys : List (ClassId × FieldType)} {N : Nat} {ad : Nat → Nat} {cf : CF} {σ : MI} {τ : ML} {as : List Value} : FrameBlind (va_Pc as (PreC D tys N ad cf σ τ)) := fun a U g mk q => by
  obtain ⟨q0, qP, qK, qN⟩ := q
  exact ⟨q0, qP, va_K.moved (u := U) (U := U.calling g mk a) (Vm.Alike.refl U.vm) qK, NW.same (u := U) (U := U.calling g mk a) rfl qN⟩
section FDW
variable {p : Program} {l : Launch} {e : Env} {R : Room} {s : State} {m : MethodId} {args : Array Value} {below : List Frame} {meth : Method} {c : Code} {H : Heap} {locs : List Loc} {cells slots : Nat} {Q : State → Prop}
variable {cc : ByteArray} {pc : Nat} {ls : Array Slot} {rest : List Value} {D : va_G} {tys : List (ClassId × FieldType)} {N : Nat} {ad : Nat → Nat} {cf : CF} {σ : MI} {τ : ML} {H0 : Heap}
/-- a field is read -/
theorem fget (hexec : p.tables.exec = Jvm.exec) (hb : c.code = cc) {own ref C : String} {T : u_T} {Nf ci index : Nat} (hts : ∀ w ∈ GG, w.before args s = true) (hin : ∀ w ∈ u_ws C T Nf, w ∈ GG) (hown : s.vm.findClass own = some m.cls) (hK : va_K D vwCl tys s) (hP : PW D N ad cf σ τ H) {k : Nat} (hk : k < N) {fs : List Value} (hsh : cf k (σ k) (τ k) = .inr (ci, fs)) (hc : vwCl[ci]? = some (C, T, Nf)) (j : Nat) (hj : j < Nf) (hlink : Cond.fieldLink own index (T j).1 (T j).2.1 (T j).2.2.1 ∈ GG) {v : Value} (hv : fs[j]? = some v) (hdg : decode cc pc = .ok (.getfield index, 3))
    (kk : W p l e R s m args below meth c H locs cells slots Q (F0 m (pc + 3) ls (v :: rest))) : W p l e R s m args below meth c H locs cells slots Q (F0 m pc ls (.ref (ad k) :: rest)) :=
  va_get hexec hb hts hin hown hK hP k (wdl_get hk hsh) hc j hj (hts _ hlink) (fun _ h9 => h9) hv hdg kk
theorem fgetN (hexec : p.tables.exec = Jvm.exec) (hb : c.code = cc) {own ref C host : String} {T : u_T} {Nf ci index : Nat} (hts : ∀ w ∈ GG, w.before args s = true) (hin : ∀ w ∈ u_ws C T Nf, w ∈ GG) (hown : s.vm.findClass own = some m.cls) (hK : va_K D vwCl tys s) (hP : PW D N ad cf σ τ H) {k : Nat} (hk : k < N) {fs : List Value} (hsh : cf k (σ k) (τ k) = .inr (ci, fs)) (hc : vwCl[ci]? = some (C, T, Nf)) (j : Nat) (hj : j < Nf) (hlink : va_Nw (Cond.fieldLinkNest own index (T j).1 (T j).2.1 (T j).2.2.1 host) s) {v : Value} (hv : fs[j]? = some v) (hdg : decode cc pc = .ok (.getfield index, 3))
    (kk : W p l e R s m args below meth c H locs cells slots Q (F0 m (pc + 3) ls (v :: rest))) : W p l e R s m args below meth c H locs cells slots Q (F0 m pc ls (.ref (ad k) :: rest)) :=
  va_getN hexec hb hts hin hown hK hP k (wdl_get hk hsh) hc j hj (va_Nw.use rfl hlink) (fun _ h9 => h9) hv hdg kk
/-- a field is written -/
theorem fput (hexec : p.tables.exec = Jvm.exec) (hb : c.code = cc) {own ref C : String} {T : u_T} {Nf ci index : Nat} (hts : ∀ w ∈ GG, w.before args s = true) (hin : ∀ w ∈ u_ws C T Nf, w ∈ GG) (ty0 : Nat → FieldType) (hty : ∀ k, k < Nf → parseFieldDescriptor (T k).2.2.1 = some (ty0 k)) (hnm : ∀ a, a < Nf → ∀ b, b < Nf → a ≠ b → (T a).2.1 ≠ (T b).2.1) (hown : s.vm.findClass own = some m.cls) (hK : va_K D vwCl tys s) (hP : PW D N ad cf σ τ H) (hI : Inj N ad) (hS : va_S (AA N ad) H0 H locs) {k : Nat} (hk : k < N) {fs : List Value} (hsh : cf k (σ k) (τ k) = .inr (ci, fs)) (hc : vwCl[ci]? = some (C, T, Nf)) (j : Nat) (hj : j < Nf) (hlink : Cond.fieldLink own index (T j).1 (T j).2.1 (T j).2.2.1 ∈ GG) (hfin : (T j).2.2.2 = false) {v : Value} (hn : narrow (ty0 j) v = v) (hfit : fits (ty0 j) v = true) (hl : j < fs.length) {x : Nat → Int32} {y : Nat → Int64} (hup : cf k x y = .inr (ci, fs.set j v)) (hdg : decode cc pc = .ok (.putfield index, 3))
    (kk : ∀ (H1 : Heap) (locs1 : List Loc), PW D N ad cf (va_up σ k x) (va_up τ k y) H1 → va_S (AA N ad) H0 H1 locs1 → W p l e R s m args below meth c H1 locs1 cells slots Q (F0 m (pc + 3) ls rest)) : W p l e R s m args below meth c H locs cells slots Q (F0 m pc ls (v :: .ref (ad k) :: rest)) :=
  va_put hexec hb hts hin ty0 hty hnm hown hK hP (wdl_D σ τ hI) hS k (wdl_get hk hsh) hc j hj (hts _ hlink) (fun _ h9 => h9) hfin (hty j hj) hn hfit hl hdg (fun H1 locs1 h1 _ h3 => kk H1 locs1 (by rw [← hup, wdl_set] at h1; exact h1) h3)
theorem fputN (hexec : p.tables.exec = Jvm.exec) (hb : c.code = cc) {own ref C host : String} {T : u_T} {Nf ci index : Nat} (hts : ∀ w ∈ GG, w.before args s = true) (hin : ∀ w ∈ u_ws C T Nf, w ∈ GG) (ty0 : Nat → FieldType) (hty : ∀ k, k < Nf → parseFieldDescriptor (T k).2.2.1 = some (ty0 k)) (hnm : ∀ a, a < Nf → ∀ b, b < Nf → a ≠ b → (T a).2.1 ≠ (T b).2.1) (hown : s.vm.findClass own = some m.cls) (hK : va_K D vwCl tys s) (hP : PW D N ad cf σ τ H) (hI : Inj N ad) (hS : va_S (AA N ad) H0 H locs) {k : Nat} (hk : k < N) {fs : List Value} (hsh : cf k (σ k) (τ k) = .inr (ci, fs)) (hc : vwCl[ci]? = some (C, T, Nf)) (j : Nat) (hj : j < Nf) (hlink : va_Nw (Cond.fieldLinkNest own index (T j).1 (T j).2.1 (T j).2.2.1 host) s) (hfin : (T j).2.2.2 = false) {v : Value} (hn : narrow (ty0 j) v = v) (hfit : fits (ty0 j) v = true) (hl : j < fs.length) {x : Nat → Int32} {y : Nat → Int64} (hup : cf k x y = .inr (ci, fs.set j v)) (hdg : decode cc pc = .ok (.putfield index, 3))
    (kk : ∀ (H1 : Heap) (locs1 : List Loc), PW D N ad cf (va_up σ k x) (va_up τ k y) H1 → va_S (AA N ad) H0 H1 locs1 → W p l e R s m args below meth c H1 locs1 cells slots Q (F0 m (pc + 3) ls rest)) : W p l e R s m args below meth c H locs cells slots Q (F0 m pc ls (v :: .ref (ad k) :: rest)) :=
  va_putN hexec hb hts hin ty0 hty hnm hown hK hP (wdl_D σ τ hI) hS k (wdl_get hk hsh) hc j hj (va_Nw.use rfl hlink) (fun _ h9 => h9) hfin (hty j hj) hn hfit hl hdg (fun H1 locs1 h1 _ h3 => kk H1 locs1 (by rw [← hup, wdl_set] at h1; exact h1) h3)
/-- a place of an array of ints is read, written -/
theorem ald (hexec : p.tables.exec = Jvm.exec) (hb : c.code = cc) (hK : va_K D vwCl tys s) (hP : PW D N ad cf σ τ H) {k : Nat} (hk : k < N) (t0 : Nat) {cA : ClassId} {n : Nat} {f : Nat → Int32} (hsh : cf k (σ k) (τ k) = .inl (cA, n, .inl f)) (ht : tys[t0]? = some (cA, .int)) {i : Int32} (hin : vp_in i n) (hdg : decode cc pc = .ok (.iaload, 1))
    (kk : W p l e R s m args below meth c H locs cells slots Q (F0 m (pc + 1) ls (.int (f i.toNatClampNeg) :: rest))) : W p l e R s m args below meth c H locs cells slots Q (F0 m pc ls (.int i :: .ref (ad k) :: rest)) :=
  va_iald hexec hb hK hP k t0 (wdl_get hk hsh) ht hin hdg kk
theorem bld (hexec : p.tables.exec = Jvm.exec) (hb : c.code = cc) (hK : va_K D vwCl tys s) (hP : PW D N ad cf σ τ H) {k : Nat} (hk : k < N) (t0 : Nat) {cA : ClassId} {n : Nat} {f : Nat → Int32} (hsh : cf k (σ k) (τ k) = .inl (cA, n, .inl f)) (ht : tys[t0]? = some (cA, .byte)) {i : Int32} (hin : vp_in i n) (hdg : decode cc pc = .ok (.baload, 1))
    (kk : W p l e R s m args below meth c H locs cells slots Q (F0 m (pc + 1) ls (.int (f i.toNatClampNeg) :: rest))) : W p l e R s m args below meth c H locs cells slots Q (F0 m pc ls (.int i :: .ref (ad k) :: rest)) :=
  va_bald hexec hb hK hP k t0 (wdl_get hk hsh) ht hin hdg kk
theorem lld (hexec : p.tables.exec = Jvm.exec) (hb : c.code = cc) (hK : va_K D vwCl tys s) (hP : PW D N ad cf σ τ H) {k : Nat} (hk : k < N) (t0 : Nat) {cA : ClassId} {n : Nat} {f : Nat → Int64} (hsh : cf k (σ k) (τ k) = .inl (cA, n, .inr (.inl f))) (ht : tys[t0]? = some (cA, .long)) {i : Int32} (hin : vp_in i n) (hdg : decode cc pc = .ok (.laload, 1))
    (kk : W p l e R s m args below meth c H locs cells slots Q (F0 m (pc + 1) ls (.long (f i.toNatClampNeg) :: rest))) : W p l e R s m args below meth c H locs cells slots Q (F0 m pc ls (.int i :: .ref (ad k) :: rest)) :=
  va_lald hexec hb hK hP k t0 (wdl_get hk hsh) ht hin hdg kk
theorem rld (hexec : p.tables.exec = Jvm.exec) (hb : c.code = cc) (hK : va_K D vwCl tys s) (hP : PW D N ad cf σ τ H) {k : Nat} (hk : k < N) (t0 : Nat) {cA : ClassId} {C : String} {n : Nat} {f : Nat → Option Nat} (hsh : cf k (σ k) (τ k) = .inl (cA, n, .inr (.inr (.inr (.inr f))))) (ht : tys[t0]? = some (cA, .object C)) {i : Int32} (hin : vp_in i n) {a : Nat} (hf : f i.toNatClampNeg = some a) (hdg : decode cc pc = .ok (.aaload, 1))
    (kk : W p l e R s m args below meth c H locs cells slots Q (F0 m (pc + 1) ls (.ref a :: rest))) : W p l e R s m args below meth c H locs cells slots Q (F0 m pc ls (.int i :: .ref (ad k) :: rest)) :=
  va_aldq hexec hb hK hP k t0 (wdl_get hk hsh) ht hin hdg (by rw [hf]; exact kk)
theorem ast (hexec : p.tables.exec = Jvm.exec) (hb : c.code = cc) (hK : va_K D vwCl tys s) (hP : PW D N ad cf σ τ H) (hI : Inj N ad) (hS : va_S (AA N ad) H0 H locs) {k : Nat} (hk : k < N) (t0 : Nat) {cA : ClassId} {n : Nat} (hsh : ∀ f : Nat → Int32, cf k f (τ k) = .inl (cA, n, .inl f)) (ht : tys[t0]? = some (cA, .int)) {i x : Int32} (hin : vp_in i n) (hdg : decode cc pc = .ok (.iastore, 1))
    (kk : ∀ (H1 : Heap) (locs1 : List Loc), PW D N ad cf (s2 σ k i.toNatClampNeg x) τ H1 → va_S (AA N ad) H0 H1 locs1 → W p l e R s m args below meth c H1 locs1 cells slots Q (F0 m (pc + 1) ls rest)) : W p l e R s m args below meth c H locs cells slots Q (F0 m pc ls (.int x :: .int i :: .ref (ad k) :: rest)) :=
  va_iast hexec hb hK hP (wdl_D σ τ hI) hS k t0 (wdl_get hk (hsh _)) ht hin hdg (fun H1 locs1 h1 _ h3 => kk H1 locs1 (by rw [← hsh, wdl_set, va_up_same] at h1; exact h1) h3)
theorem lst (hexec : p.tables.exec = Jvm.exec) (hb : c.code = cc) (hK : va_K D vwCl tys s) (hP : PW D N ad cf σ τ H) (hI : Inj N ad) (hS : va_S (AA N ad) H0 H locs) {k : Nat} (hk : k < N) (t0 : Nat) {cA : ClassId} {n : Nat} (hsh : ∀ f : Nat → Int64, cf k (σ k) f = .inl (cA, n, .inr (.inl f))) (ht : tys[t0]? = some (cA, .long)) {i : Int32} {x : Int64} (hin : vp_in i n) (hdg : decode cc pc = .ok (.lastore, 1))
    (kk : ∀ (H1 : Heap) (locs1 : List Loc), PW D N ad cf σ (s2L τ k i.toNatClampNeg x) H1 → va_S (AA N ad) H0 H1 locs1 → W p l e R s m args below meth c H1 locs1 cells slots Q (F0 m (pc + 1) ls rest)) : W p l e R s m args below meth c H locs cells slots Q (F0 m pc ls (.long x :: .int i :: .ref (ad k) :: rest)) :=
  va_last hexec hb hK hP (wdl_D σ τ hI) hS k t0 (wdl_get hk (hsh _)) ht hin hdg (fun H1 locs1 h1 _ h3 => kk H1 locs1 (by rw [← hsh, wdl_set, va_up_same] at h1; exact h1) h3)
theorem bst (hexec : p.tables.exec = Jvm.exec) (hb : c.code = cc) (hK : va_K D vwCl tys s) (hP : PW D N ad cf σ τ H) (hI : Inj N ad) (hS : va_S (AA N ad) H0 H locs) {k : Nat} (hk : k < N) (t0 : Nat) {cA : ClassId} {n : Nat} (hsh : ∀ f : Nat → Int32, cf k f (τ k) = .inl (cA, n, .inl f)) (ht : tys[t0]? = some (cA, .byte)) {i x : Int32} (hin : vp_in i n) (hdg : decode cc pc = .ok (.bastore, 1))
    (kk : ∀ (H1 : Heap) (locs1 : List Loc), PW D N ad cf (s2 σ k i.toNatClampNeg x.toInt8.toInt32) τ H1 → va_S (AA N ad) H0 H1 locs1 → W p l e R s m args below meth c H1 locs1 cells slots Q (F0 m (pc + 1) ls rest)) : W p l e R s m args below meth c H locs cells slots Q (F0 m pc ls (.int x :: .int i :: .ref (ad k) :: rest)) :=
  va_bast hexec hb hK hP (wdl_D σ τ hI) hS k t0 (wdl_get hk (hsh _)) ht hin hdg (fun H1 locs1 h1 _ h3 => kk H1 locs1 (by rw [← hsh, wdl_set, va_up_same, vp_nar_byte] at h1; exact h1) h3)
end FDW
end
section
/-! ===== calls and ends over the numbered cells ===== -/
section FDC
variable {p : Program} {l : Launch} {e : Env} {R : Room} {s : State} {m : MethodId} {args : Array Value} {below : List Frame} {meth : Method} {c : Code} {H : Heap} {locs : List Loc} {cells slots : Nat} {Q : State → Prop}
variable {cc : ByteArray} {pc : Nat} {ls : Array Slot} {rest st0 : List Value} {D : va_G} {tys : List (ClassId × FieldType)} {N : Nat} {ad : Nat → Nat} {cf : CF} {σ : MI} {τ : ML} {H0 : Heap} {post : Post}
theorem callg {a : Array Value} (hr : va_Run p l e R s m args below meth c H locs cells slots 0 0 (F0 m pc ls st0) rest (QD D N ad cf post a) (AA N ad)) (hS : va_S (AA N ad) H0 H locs)
    (kk : ∀ (v : Option Value) (σ' : MI) (τ' : ML) (H1 : Heap) (locs1 : List Loc), post v σ' τ' → PW D N ad cf σ' τ' H1 → va_S (AA N ad) H0 H1 locs1 → W p l e R s m args below meth c H1 locs1 cells slots Q (F0 m (pc + 3) ls (v.toList ++ rest))) : W p l e R s m args below meth c H locs cells slots Q (F0 m pc ls st0) := by
  intro T hT X
  obtain ⟨v, st₀, t, T', L, h0, X', hL, e1, e2, ⟨⟨v', σ', τ', hv, hp, hb⟩, hz, hk⟩, st⟩ := hr T hT X
  cases hv
  rw [h0] at hz hk
  obtain ⟨t2, a1, b1⟩ := kk v σ' τ' T'.heap (locs ++ L) hp (by rw [e1]; exact hb)
    ⟨Nat.le_trans hS.1 (by rw [e1]; exact hz), fun q h1 h2 => by rw [e1, hk q (Nat.lt_of_lt_of_le h1 hS.1) h2]; exact hS.2.1 q h1 h2, fun q hq => by
      rcases List.mem_append.mp hq with h | h
      · exact hS.2.2 q h
      · exact hL q h⟩ T' rfl X'
  exact ⟨t2, st t2 a1, b1⟩
/-- a method's own words: an instance method of the class C, a static one -/
def MOK (C : String) (y : MethodName) (bytes : ByteArray) (maxL : Nat) (ret : Option FieldType) (n : Nat) : Prop := Cond.instanceMethod y ∈ GG ∧ Cond.selects C y y ∈ GG ∧ Cond.initialized C ∈ GG ∧ Cond.code y bytes maxL ret ∈ GG ∧ (y.cls = C ∧ y.cls ≠ "java/lang/invoke/MethodHandle" ∧ y.cls ≠ "java/lang/invoke/VarHandle" ∧ (parseMethodDescriptor y.desc).map (fun d => d.parameters.length) = some n)
def SOK (y : MethodName) (bytes : ByteArray) (maxL : Nat) (ret : Option FieldType) (n : Nat) : Prop := Cond.static y ∈ GG ∧ Cond.initialized y.cls ∈ GG ∧ Cond.code y bytes maxL ret ∈ GG ∧ (y.cls ≠ "java/lang/invoke/MethodHandle" ∧ y.cls ≠ "java/lang/invoke/VarHandle" ∧ (parseMethodDescriptor y.desc).map (fun d => d.parameters.length) = some n)
variable {y : MethodName} {bytes : ByteArray} {maxL nL n index fr lo k ci Nf : Nat} {ret : Option FieldType} {own C host : String} {T : u_T} {As fs : List Value}
theorem callv (S : CallFix p m c cc nL s args GG own) (hK : va_K D vwCl tys s) (hN : NW s) (hP : PW D N ad cf σ τ H) (hS : va_S (AA N ad) H0 H locs) (hM : CT l D tys N ad cf y bytes maxL ret fr lo (.ref (ad k) :: As) σ τ post) (hk : k < N) (hsh : cf k (σ k) (τ k) = .inr (ci, fs)) (hc : vwCl[ci]? = some (C, T, Nf)) (ok : MOK C y bytes maxL ret n) (h1 : Cond.methodLink own index y ∈ GG)
    (hR : fr + 1 ≤ R.frames ∧ 8 + (maxL + 11) + lo ≤ R.locals) (hn : As.length = n) (hsize : ls.size = nL) (hstack : st0 = As.reverse ++ .ref (ad k) :: rest) (hW : (rest.map fun v => v.category).sum ≤ 8) (hf : cells ≤ R.cells ∧ slots ≤ R.slots) (hdg : decode cc pc = .ok (.invokevirtual index, 3))
    (kk : ∀ (v : Option Value) (σ' : MI) (τ' : ML) (H1 : Heap) (locs1 : List Loc), post v σ' τ' → PW D N ad cf σ' τ' H1 → va_S (AA N ad) H0 H1 locs1 → W p l e R s m args below meth c H1 locs1 cells slots Q (F0 m (pc + 3) ls (v.toList ++ rest))) : W p l e R s m args below meth c H locs cells slots Q (F0 m pc ls st0) := by
  obtain ⟨o1, o2, o3, o4, o5⟩ := ok
  refine callg (va_runV (As := As) (rest := rest) S hM (cwV n S.2.2.2.2 (GG_inV h1 o1 o2 o3 o4) rfl rfl rfl o5 hR) ⟨PreC.blind, va_recv hK hP hc (wdl_get hk hsh), fun U hU hW => ⟨rfl, by rw [hU]; exact hP, va_K.moved hW.alike hK, NW.warm hW hN⟩⟩ rfl hn hsize hstack (lv_room hW) hdg hf) hS kk
theorem calls (S : CallFix p m c cc nL s args GG own) (hK : va_K D vwCl tys s) (hN : NW s) (hP : PW D N ad cf σ τ H) (hS : va_S (AA N ad) H0 H locs) (hM : CT l D tys N ad cf y bytes maxL ret fr lo As σ τ post) (ok : SOK y bytes maxL ret n) (h1 : Cond.methodLink own index y ∈ GG)
    (hR : fr + 1 ≤ R.frames ∧ 8 + (maxL + 11) + lo ≤ R.locals) (hn : As.length = n) (hsize : ls.size = nL) (hstack : st0 = As.reverse ++ rest) (hW : (rest.map fun v => v.category).sum ≤ 8) (hf : cells ≤ R.cells ∧ slots ≤ R.slots) (hdg : decode cc pc = .ok (.invokestatic index, 3))
    (kk : ∀ (v : Option Value) (σ' : MI) (τ' : ML) (H1 : Heap) (locs1 : List Loc), post v σ' τ' → PW D N ad cf σ' τ' H1 → va_S (AA N ad) H0 H1 locs1 → W p l e R s m args below meth c H1 locs1 cells slots Q (F0 m (pc + 3) ls (v.toList ++ rest))) : W p l e R s m args below meth c H locs cells slots Q (F0 m pc ls st0) := by
  obtain ⟨o1, o2, o3, o4⟩ := ok
  refine callg (va_runS (As := As) (rest := rest) S hM (va_cwS n S.2.2.2.2 (GG_inS h1 o1 o2 o3) rfl rfl rfl o4 hR) ⟨PreC.blind, fun U hU hW => ⟨rfl, by rw [hU]; exact hP, va_K.moved hW.alike hK, NW.warm hW hN⟩⟩ rfl hn hsize hstack (lv_room hW) hdg hf) hS kk
theorem callsN (S : CallFix p m c cc nL s args GG own) (hK : va_K D vwCl tys s) (hN : NW s) (hP : PW D N ad cf σ τ H) (hS : va_S (AA N ad) H0 H locs) (hM : CT l D tys N ad cf y bytes maxL ret fr lo As σ τ post) (ok : SOK y bytes maxL ret n) (h1 : va_Nw (.methodLinkNest own index y host) s)
    (hR : fr + 1 ≤ R.frames ∧ 8 + (maxL + 11) + lo ≤ R.locals) (hn : As.length = n) (hsize : ls.size = nL) (hstack : st0 = As.reverse ++ rest) (hW : (rest.map fun v => v.category).sum ≤ 8) (hf : cells ≤ R.cells ∧ slots ≤ R.slots) (hdg : decode cc pc = .ok (.invokestatic index, 3))
    (kk : ∀ (v : Option Value) (σ' : MI) (τ' : ML) (H1 : Heap) (locs1 : List Loc), post v σ' τ' → PW D N ad cf σ' τ' H1 → va_S (AA N ad) H0 H1 locs1 → W p l e R s m args below meth c H1 locs1 cells slots Q (F0 m (pc + 3) ls (v.toList ++ rest))) : W p l e R s m args below meth c H locs cells slots Q (F0 m pc ls st0) := by
  obtain ⟨o1, o2, o3, o4⟩ := ok
  refine callg (va_runSN (As := As) (rest := rest) S hM ⟨va_cnB n S.2.2.2.2 (GG_in o3) rfl rfl rfl h1 (S.2.2.2.2 _ o2) o4 hR, S.2.2.2.2 _ o1, trivial⟩ ⟨PreC.blind, fun U hU hW => ⟨rfl, by rw [hU]; exact hP, va_K.moved hW.alike hK, NW.warm hW hN⟩⟩ rfl hn hsize hstack (lv_room hW) hdg hf) hS kk
/-- a method is entered -/
theorem CT.of (hy : plainName y.cls = true) (hlen : (lg_sl As).length ≤ maxL)
    (h : ∀ (p : Program) (e : Env) (s : State) (m : MethodId) (args : Array Value) (below : List Frame) (meth : Method) (c : Code), p.tables.exec = Jvm.exec → c.code = bytes → meth.sig.returnType = ret → (∀ w ∈ GG, w.before args s = true) → s.vm.findClass y.cls = some m.cls → meth.locks = false → c.maxLocals = maxL → PW D N ad cf σ τ s.heap → va_K D vwCl tys s → NW s → va_S (AA N ad) s.heap s.heap [] → ∀ ls : Array Slot, lv_has ls maxL (lv_args 0 As) → W p l e { frames := fr, cells := 0, slots := 0, locals := lo } s m args below meth c s.heap [] 0 0 (MQ below (QD D N ad cf post) args s 0 0 (AA N ad)) (F0 m 0 ls [])) :
    CT l D tys N ad cf y bytes maxL ret fr lo As σ τ post := by
  refine Met.ofW (cc := bytes) (maxL := maxL) (ret := ret) hy rfl ?_
  intro p e s m args below meth c s₁ B hml hv
  obtain ⟨rfl, hP, hK, hN⟩ := hv
  have hts := atoms_spec (ws := Cond.code y bytes maxL ret :: GG) B.pre
  have hl := lv_entry As (n := maxL) hlen
  rw [lg_entry_eq]
  exact h p e s m As.toArray below meth c B.exec B.bytes B.returns (fun w hw => hts w (List.mem_cons_of_mem _ hw)) (findClass_of_methodNamed B.named) B.notSynchronized hml hP hK hN va_S.rf _ hl
theorem ret_i {v : Int32} (hexec : p.tables.exec = Jvm.exec) (hb : c.code = cc) (hr : meth.sig.returnType = some .int) (hlk : meth.locks = false) (hP : PW D N ad cf σ τ H) (hS : va_S (AA N ad) s.heap H locs) (hdg : decode cc pc = .ok (.ireturn, 1)) (hp : post (some (.int v)) σ τ) : W p l e R s m args below meth c H locs cells slots (MQ below (QD D N ad cf post) args s cells slots (AA N ad)) (F0 m pc ls [.int v]) :=
  W.iret hexec hb hr (fun t ht hW => ⟨⟨_, _, _, rfl, hp, by rw [ht]; exact hP⟩, hS.F ht⟩) hS.2.2 hdg hlk
theorem ret_z {v : Int32} (hexec : p.tables.exec = Jvm.exec) (hb : c.code = cc) (hr : meth.sig.returnType = some .boolean) (hlk : meth.locks = false) (hP : PW D N ad cf σ τ H) (hS : va_S (AA N ad) s.heap H locs) (hdg : decode cc pc = .ok (.ireturn, 1)) {b : Bool} (hv : v = b2i b) (hp : post (some (.int (b2i b))) σ τ) : W p l e R s m args below meth c H locs cells slots (MQ below (QD D N ad cf post) args s cells slots (AA N ad)) (F0 m pc ls [.int v]) := by
  subst hv
  exact W.zret hexec hb hr (by cases b <;> rfl) (fun t ht hW => ⟨⟨_, _, _, rfl, hp, by rw [ht]; exact hP⟩, hS.F ht⟩) hS.2.2 hdg hlk
theorem ret_l {v : Int64} (hexec : p.tables.exec = Jvm.exec) (hb : c.code = cc) (hr : meth.sig.returnType = some .long) (hlk : meth.locks = false) (hP : PW D N ad cf σ τ H) (hS : va_S (AA N ad) s.heap H locs) (hdg : decode cc pc = .ok (.lreturn, 1)) (hp : post (some (.long v)) σ τ) : W p l e R s m args below meth c H locs cells slots (MQ below (QD D N ad cf post) args s cells slots (AA N ad)) (F0 m pc ls [.long v]) :=
  W.lret hexec hb hr (fun t ht hW => ⟨⟨_, _, _, rfl, hp, by rw [ht]; exact hP⟩, hS.F ht⟩) hS.2.2 hdg hlk
theorem ret_v (hexec : p.tables.exec = Jvm.exec) (hb : c.code = cc) (hr : meth.sig.returnType = none) (hlk : meth.locks = false) (hP : PW D N ad cf σ τ H) (hS : va_S (AA N ad) s.heap H locs) (hdg : decode cc pc = .ok (.return_, 1)) (hp : post none σ τ) : W p l e R s m args below meth c H locs cells slots (MQ below (QD D N ad cf post) args s cells slots (AA N ad)) (F0 m pc ls []) :=
  W.vret hexec hb hr (fun t ht hW => ⟨⟨_, _, _, rfl, hp, by rw [ht]; exact hP⟩, hS.F ht⟩) hS.2.2 hdg hlk
theorem ret_a {v : Value} {C : String} (hexec : p.tables.exec = Jvm.exec) (hb : c.code = cc) (hr : meth.sig.returnType = some (.object C)) (hlk : meth.locks = false) (hP : PW D N ad cf σ τ H) (hS : va_S (AA N ad) s.heap H locs) (hdg : decode cc pc = .ok (.areturn, 1)) (hv : v = .null ∨ ∃ a, v = .ref a) (hp : post (some v) σ τ) : W p l e R s m args below meth c H locs cells slots (MQ below (QD D N ad cf post) args s cells slots (AA N ad)) (F0 m pc ls [v]) :=
  W.aret hexec hb hr (Or.inl ⟨_, rfl⟩) hv (fun t ht hW => ⟨⟨_, _, _, rfl, hp, by rw [ht]; exact hP⟩, hS.F ht⟩) hS.2.2 hdg hlk
/-- branches on a truth value -/
theorem br_eq {b : Bool} {off : Int} {tgt : Nat} (hexec : p.tables.exec = Jvm.exec) (hb : c.code = cc) (hdg : decode cc pc = .ok (.ifCond .eq off, 3)) (ht : (pc : Int) + off = (tgt : Int))
    (kt : b = false → W p l e R s m args below meth c H locs cells slots Q (F0 m tgt ls rest)) (kf : b = true → W p l e R s m args below meth c H locs cells slots Q (F0 m (pc + 3) ls rest)) : W p l e R s m args below meth c H locs cells slots Q (F0 m pc ls (.int (b2i b) :: rest)) :=
  lv_if_eq hexec hb hdg ht (fun h => kt (by cases b <;> first | rfl | (exact absurd h (by decide)))) (fun h => kf (by cases b <;> first | rfl | (exact absurd rfl h)))
theorem br_ne {b : Bool} {off : Int} {tgt : Nat} (hexec : p.tables.exec = Jvm.exec) (hb : c.code = cc) (hdg : decode cc pc = .ok (.ifCond .ne off, 3)) (ht : (pc : Int) + off = (tgt : Int))
    (kt : b = true → W p l e R s m args below meth c H locs cells slots Q (F0 m tgt ls rest)) (kf : b = false → W p l e R s m args below meth c H locs cells slots Q (F0 m (pc + 3) ls rest)) : W p l e R s m args below meth c H locs cells slots Q (F0 m pc ls (.int (b2i b) :: rest)) :=
  lv_if_ne hexec hb hdg ht (fun h => kt (by cases b <;> first | rfl | (exact absurd rfl h))) (fun h => kf (by cases b <;> first | rfl | (exact absurd h (by decide))))
end FDC
end
section
theorem zz_last : True := trivial
end
