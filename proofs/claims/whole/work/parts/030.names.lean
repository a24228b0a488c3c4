def RX0 : String := "PriceDesk$Book"
def TX0 : u_T := fun k => match k with
  | 0 => ("PriceDesk$Book", "now", "I", false)
  | 1 => ("PriceDesk$Book", "indexCount", "I", false)
  | 2 => ("PriceDesk$Book", "contractCount", "I", false)
  | 3 => ("PriceDesk$Book", "indexes", "[LPriceDesk$Index;", true)
  | _ => ("PriceDesk$Book", "contracts", "[LPriceDesk$Contract;", true)
def tyX0 : Nat → FieldType := fun k => match k with
  | 0 => .int
  | 1 => .int
  | 2 => .int
  | 3 => .array (.object "PriceDesk$Index")
  | _ => .array (.object "PriceDesk$Contract")
abbrev wsX00 : List Cond := u_ws RX0 TX0 5
theorem nmX0 : ∀ a, a < 5 → ∀ b, b < 5 → a ≠ b → (TX0 a).2.1 ≠ (TX0 b).2.1 := by decide +kernel
theorem tyX0_ok : ∀ k, k < 5 → parseFieldDescriptor (TX0 k).2.2.1 = some (tyX0 k) := by decide +kernel
abbrev cX0_init : ByteArray := prog_2_method_1_code
def yX0_init : MethodName := ⟨RX0, "<init>", "()V"⟩
abbrev cX0_forget : ByteArray := prog_2_method_2_code
def yX0_forget : MethodName := ⟨RX0, "forget", "()V"⟩
abbrev cX0_addIndex : ByteArray := prog_2_method_3_code
def yX0_addIndex : MethodName := ⟨RX0, "addIndex", "()LPriceDesk$Index;"⟩
abbrev cX0_addContract : ByteArray := prog_2_method_4_code
def yX0_addContract : MethodName := ⟨RX0, "addContract", "()LPriceDesk$Contract;"⟩
abbrev cX0_indexAt : ByteArray := prog_2_method_5_code
def yX0_indexAt : MethodName := ⟨RX0, "indexAt", "(I)LPriceDesk$Index;"⟩
abbrev cX0_contractAt : ByteArray := prog_2_method_6_code
def yX0_contractAt : MethodName := ⟨RX0, "contractAt", "(I)LPriceDesk$Contract;"⟩
abbrev cX0_isPast : ByteArray := prog_2_method_7_code
def yX0_isPast : MethodName := ⟨RX0, "isPast", "(I)Z"⟩
abbrev cX0_isPriced : ByteArray := prog_2_method_8_code
def yX0_isPriced : MethodName := ⟨RX0, "isPriced", "(LPriceDesk$Contract;I)Z"⟩
abbrev cX0_factorOf : ByteArray := prog_2_method_9_code
def yX0_factorOf : MethodName := ⟨RX0, "factorOf", "(LPriceDesk$Contract;I)I"⟩
abbrev cX0_priceFor : ByteArray := prog_2_method_10_code
def yX0_priceFor : MethodName := ⟨RX0, "priceFor", "(LPriceDesk$Contract;I)I"⟩
abbrev cX0_priceWere : ByteArray := prog_2_method_11_code
def yX0_priceWere : MethodName := ⟨RX0, "priceWere", "(LPriceDesk$Contract;LPriceDesk$Index;I)I"⟩
abbrev cX0_waitsFor : ByteArray := prog_2_method_12_code
def yX0_waitsFor : MethodName := ⟨RX0, "waitsFor", "(II)I"⟩
def RX1 : String := "PriceDesk$Contract"
def TX1 : u_T := fun k => match k with
  | 0 => ("PriceDesk$Contract", "price", "I", false)
  | 1 => ("PriceDesk$Contract", "fixed", "I", false)
  | 2 => ("PriceDesk$Contract", "base", "I", false)
  | 3 => ("PriceDesk$Contract", "limit", "I", false)
  | 4 => ("PriceDesk$Contract", "part", "I", false)
  | 5 => ("PriceDesk$Contract", "beyond", "Z", false)
  | 6 => ("PriceDesk$Contract", "terms", "I", false)
  | 7 => ("PriceDesk$Contract", "weights", "[I", true)
  | _ => ("PriceDesk$Contract", "indexes", "[I", true)
def tyX1 : Nat → FieldType := fun k => match k with
  | 0 => .int
  | 1 => .int
  | 2 => .int
  | 3 => .int
  | 4 => .int
  | 5 => .boolean
  | 6 => .int
  | 7 => .array .int
  | _ => .array .int
abbrev wsX10 : List Cond := u_ws RX1 TX1 9
theorem nmX1 : ∀ a, a < 9 → ∀ b, b < 9 → a ≠ b → (TX1 a).2.1 ≠ (TX1 b).2.1 := by decide +kernel
theorem tyX1_ok : ∀ k, k < 9 → parseFieldDescriptor (TX1 k).2.2.1 = some (tyX1 k) := by decide +kernel
abbrev cX1_init : ByteArray := prog_3_method_1_code
def yX1_init : MethodName := ⟨RX1, "<init>", "()V"⟩
abbrev cX1_addTerm : ByteArray := prog_3_method_2_code
def yX1_addTerm : MethodName := ⟨RX1, "addTerm", "(II)V"⟩
abbrev cX1_usesIndex : ByteArray := prog_3_method_3_code
def yX1_usesIndex : MethodName := ⟨RX1, "usesIndex", "(I)Z"⟩
abbrev cX1_thousandths : ByteArray := prog_3_method_4_code
def yX1_thousandths : MethodName := ⟨RX1, "thousandths", "()I"⟩
abbrev cX1_termFigure : ByteArray := prog_3_method_5_code
def yX1_termFigure : MethodName := ⟨RX1, "termFigure", "(I)I"⟩
abbrev cX1_moveBy : ByteArray := prog_3_method_6_code
def yX1_moveBy : MethodName := ⟨RX1, "moveBy", "(I)I"⟩
abbrev cX1_priceBy : ByteArray := prog_3_method_7_code
def yX1_priceBy : MethodName := ⟨RX1, "priceBy", "(I)I"⟩
def RX2 : String := "PriceDesk$Delivery"
def TX2 : u_T := fun k => match k with
  | 0 => ("PriceDesk$Delivery", "contract", "I", false)
  | 1 => ("PriceDesk$Delivery", "due", "I", false)
  | 2 => ("PriceDesk$Delivery", "month", "I", false)
  | 3 => ("PriceDesk$Delivery", "quantity", "I", false)
  | 4 => ("PriceDesk$Delivery", "pricedMonth", "I", false)
  | 5 => ("PriceDesk$Delivery", "price", "I", false)
  | 6 => ("PriceDesk$Delivery", "settledMonth", "I", false)
  | _ => ("PriceDesk$Delivery", "trued", "J", false)
def tyX2 : Nat → FieldType := fun k => match k with
  | 0 => .int
  | 1 => .int
  | 2 => .int
  | 3 => .int
  | 4 => .int
  | 5 => .int
  | 6 => .int
  | _ => .long
abbrev wsX20 : List Cond := u_ws RX2 TX2 8
theorem nmX2 : ∀ a, a < 8 → ∀ b, b < 8 → a ≠ b → (TX2 a).2.1 ≠ (TX2 b).2.1 := by decide +kernel
theorem tyX2_ok : ∀ k, k < 8 → parseFieldDescriptor (TX2 k).2.2.1 = some (tyX2 k) := by decide +kernel
abbrev cX2_init : ByteArray := prog_4_method_1_code
def yX2_init : MethodName := ⟨RX2, "<init>", "()V"⟩
abbrev cX2_take : ByteArray := prog_4_method_2_code
def yX2_take : MethodName := ⟨RX2, "take", "(IIII)V"⟩
abbrev cX2_bill : ByteArray := prog_4_method_3_code
def yX2_bill : MethodName := ⟨RX2, "bill", "(II)V"⟩
abbrev cX2_billed : ByteArray := prog_4_method_4_code
def yX2_billed : MethodName := ⟨RX2, "billed", "()J"⟩
abbrev cX2_isSettled : ByteArray := prog_4_method_5_code
def yX2_isSettled : MethodName := ⟨RX2, "isSettled", "()Z"⟩
abbrev cX2_settle : ByteArray := prog_4_method_6_code
def yX2_settle : MethodName := ⟨RX2, "settle", "(II)V"⟩
abbrev cX2_unsettle : ByteArray := prog_4_method_7_code
def yX2_unsettle : MethodName := ⟨RX2, "unsettle", "()V"⟩
def RX3 : String := "PriceDesk$History"
def TX3 : u_T := fun k => match k with
  | 0 => ("PriceDesk$History", "acts", "[I", true)
  | 1 => ("PriceDesk$History", "indexes", "[I", true)
  | 2 => ("PriceDesk$History", "months", "[I", true)
  | 3 => ("PriceDesk$History", "values", "[I", true)
  | 4 => ("PriceDesk$History", "kinds", "[I", true)
  | 5 => ("PriceDesk$History", "next", "I", false)
  | _ => ("PriceDesk$History", "kept", "I", false)
def tyX3 : Nat → FieldType := fun k => match k with
  | 0 => .array .int
  | 1 => .array .int
  | 2 => .array .int
  | 3 => .array .int
  | 4 => .array .int
  | 5 => .int
  | _ => .int
abbrev wsX30 : List Cond := u_ws RX3 TX3 7
theorem nmX3 : ∀ a, a < 7 → ∀ b, b < 7 → a ≠ b → (TX3 a).2.1 ≠ (TX3 b).2.1 := by decide +kernel
theorem tyX3_ok : ∀ k, k < 7 → parseFieldDescriptor (TX3 k).2.2.1 = some (tyX3 k) := by decide +kernel
abbrev cX3_init : ByteArray := prog_5_method_1_code
def yX3_init : MethodName := ⟨RX3, "<init>", "()V"⟩
abbrev cX3_forget : ByteArray := prog_5_method_2_code
def yX3_forget : MethodName := ⟨RX3, "forget", "()V"⟩
abbrev cX3_keep : ByteArray := prog_5_method_3_code
def yX3_keep : MethodName := ⟨RX3, "keep", "(IIIII)V"⟩
abbrev cX3_takeLatest : ByteArray := prog_5_method_4_code
def yX3_takeLatest : MethodName := ⟨RX3, "takeLatest", "()I"⟩
def RX4 : String := "PriceDesk$Index"
def TX4 : u_T := fun k => match k with
  | 0 => ("PriceDesk$Index", "values", "[I", true)
  | 1 => ("PriceDesk$Index", "kinds", "[I", true)
  | 2 => ("PriceDesk$Index", "rebasedMonths", "[I", true)
  | 3 => ("PriceDesk$Index", "oldNumbers", "[I", true)
  | 4 => ("PriceDesk$Index", "newNumbers", "[I", true)
  | _ => ("PriceDesk$Index", "rebasings", "I", false)
def tyX4 : Nat → FieldType := fun k => match k with
  | 0 => .array .int
  | 1 => .array .int
  | 2 => .array .int
  | 3 => .array .int
  | 4 => .array .int
  | _ => .int
abbrev wsX40 : List Cond := u_ws RX4 TX4 6
theorem nmX4 : ∀ a, a < 6 → ∀ b, b < 6 → a ≠ b → (TX4 a).2.1 ≠ (TX4 b).2.1 := by decide +kernel
theorem tyX4_ok : ∀ k, k < 6 → parseFieldDescriptor (TX4 k).2.2.1 = some (tyX4 k) := by decide +kernel
abbrev cX4_init : ByteArray := prog_6_method_1_code
def yX4_init : MethodName := ⟨RX4, "<init>", "()V"⟩
abbrev cX4_forget : ByteArray := prog_6_method_2_code
def yX4_forget : MethodName := ⟨RX4, "forget", "()V"⟩
abbrev cX4_put : ByteArray := prog_6_method_3_code
def yX4_put : MethodName := ⟨RX4, "put", "(III)V"⟩
abbrev cX4_kindAt : ByteArray := prog_6_method_4_code
def yX4_kindAt : MethodName := ⟨RX4, "kindAt", "(I)I"⟩
abbrev cX4_hasValue : ByteArray := prog_6_method_5_code
def yX4_hasValue : MethodName := ⟨RX4, "hasValue", "(I)Z"⟩
abbrev cX4_valueAt : ByteArray := prog_6_method_6_code
def yX4_valueAt : MethodName := ⟨RX4, "valueAt", "(I)I"⟩
abbrev cX4_knownMonth : ByteArray := prog_6_method_7_code
def yX4_knownMonth : MethodName := ⟨RX4, "knownMonth", "(I)I"⟩
abbrev cX4_hasRebasing : ByteArray := prog_6_method_8_code
def yX4_hasRebasing : MethodName := ⟨RX4, "hasRebasing", "(I)Z"⟩
abbrev cX4_latestRebasing : ByteArray := prog_6_method_9_code
def yX4_latestRebasing : MethodName := ⟨RX4, "latestRebasing", "()I"⟩
abbrev cX4_addRebasing : ByteArray := prog_6_method_10_code
def yX4_addRebasing : MethodName := ⟨RX4, "addRebasing", "(II)V"⟩
abbrev cX4_ratioBetween : ByteArray := prog_6_method_11_code
def yX4_ratioBetween : MethodName := ⟨RX4, "ratioBetween", "(II)I"⟩
def RX5 : String := "PriceDesk$Ledger"
def TX5 : u_T := fun k => match k with
  | 0 => ("PriceDesk$Ledger", "rows", "[LPriceDesk$Delivery;", true)
  | _ => ("PriceDesk$Ledger", "count", "I", false)
def tyX5 : Nat → FieldType := fun k => match k with
  | 0 => .array (.object "PriceDesk$Delivery")
  | _ => .int
abbrev wsX50 : List Cond := u_ws RX5 TX5 2
theorem nmX5 : ∀ a, a < 2 → ∀ b, b < 2 → a ≠ b → (TX5 a).2.1 ≠ (TX5 b).2.1 := by decide +kernel
theorem tyX5_ok : ∀ k, k < 2 → parseFieldDescriptor (TX5 k).2.2.1 = some (tyX5 k) := by decide +kernel
abbrev cX5_init : ByteArray := prog_7_method_1_code
def yX5_init : MethodName := ⟨RX5, "<init>", "()V"⟩
abbrev cX5_rowAt : ByteArray := prog_7_method_2_code
def yX5_rowAt : MethodName := ⟨RX5, "rowAt", "(I)LPriceDesk$Delivery;"⟩
abbrev cX5_addRow : ByteArray := prog_7_method_3_code
def yX5_addRow : MethodName := ⟨RX5, "addRow", "()LPriceDesk$Delivery;"⟩
abbrev cX5_dropLatest : ByteArray := prog_7_method_4_code
def yX5_dropLatest : MethodName := ⟨RX5, "dropLatest", "()V"⟩
abbrev cX5_countSettled : ByteArray := prog_7_method_5_code
def yX5_countSettled : MethodName := ⟨RX5, "countSettled", "()I"⟩
abbrev cX5_settle : ByteArray := prog_7_method_6_code
def yX5_settle : MethodName := ⟨RX5, "settle", "(LPriceDesk$Book;)I"⟩
abbrev cX5_unsettle : ByteArray := prog_7_method_7_code
def yX5_unsettle : MethodName := ⟨RX5, "unsettle", "(I)V"⟩
abbrev cX5_billedFrom : ByteArray := prog_7_method_8_code
def yX5_billedFrom : MethodName := ⟨RX5, "billedFrom", "(II)J"⟩
abbrev cX5_truedFrom : ByteArray := prog_7_method_9_code
def yX5_truedFrom : MethodName := ⟨RX5, "truedFrom", "(II)J"⟩
def RX6 : String := "PriceDesk$Tape"
def TX6 : u_T := fun k => match k with
  | 0 => ("PriceDesk$Tape", "bytes", "[B", true)
  | 1 => ("PriceDesk$Tape", "length", "I", false)
  | 2 => ("PriceDesk$Tape", "start", "I", false)
  | 3 => ("PriceDesk$Tape", "next", "I", false)
  | 4 => ("PriceDesk$Tape", "kind", "I", false)
  | _ => ("PriceDesk$Tape", "number", "I", false)
def tyX6 : Nat → FieldType := fun k => match k with
  | 0 => .array .byte
  | 1 => .int
  | 2 => .int
  | 3 => .int
  | 4 => .int
  | _ => .int
abbrev wsX60 : List Cond := u_ws RX6 TX6 6
theorem nmX6 : ∀ a, a < 6 → ∀ b, b < 6 → a ≠ b → (TX6 a).2.1 ≠ (TX6 b).2.1 := by decide +kernel
theorem tyX6_ok : ∀ k, k < 6 → parseFieldDescriptor (TX6 k).2.2.1 = some (tyX6 k) := by decide +kernel
abbrev cX6_init : ByteArray := prog_8_method_1_code
def yX6_init : MethodName := ⟨RX6, "<init>", "()V"⟩
abbrev cX6_append : ByteArray := prog_8_method_2_code
def yX6_append : MethodName := ⟨RX6, "append", "(I)V"⟩
abbrev cX6_begin : ByteArray := prog_8_method_3_code
def yX6_begin : MethodName := ⟨RX6, "begin", "()V"⟩
abbrev cX6_byteAt : ByteArray := prog_8_method_4_code
def yX6_byteAt : MethodName := ⟨RX6, "byteAt", "(I)I"⟩
abbrev cX6_advance : ByteArray := prog_8_method_5_code
def yX6_advance : MethodName := ⟨RX6, "advance", "()V"⟩
abbrev cX6_cutToken : ByteArray := prog_8_method_6_code
def yX6_cutToken : MethodName := ⟨RX6, "cutToken", "()V"⟩
abbrev cX6_isSign : ByteArray := prog_8_method_7_code
def yX6_isSign : MethodName := ⟨RX6, "isSign", "(C)Z"⟩
abbrev cX6_isWord : ByteArray := prog_8_method_8_code
def yX6_isWord : MethodName := ⟨RX6, "isWord", "(Ljava/lang/String;)Z"⟩
abbrev cX6_isSameAs : ByteArray := prog_8_method_9_code
def yX6_isSameAs : MethodName := ⟨RX6, "isSameAs", "(II)Z"⟩
abbrev cX6_isBlank : ByteArray := prog_8_method_10_code
def yX6_isBlank : MethodName := ⟨RX6, "isBlank", "(I)Z"⟩
def RX7 : String := "PriceDesk$TextReader"
def TX7 : u_T := fun k => match k with
  | 0 => ("PriceDesk$TextReader", "tape", "LPriceDesk$Tape;", true)
  | 1 => ("PriceDesk$TextReader", "namePlaces", "[I", true)
  | 2 => ("PriceDesk$TextReader", "nameSizes", "[I", true)
  | 3 => ("PriceDesk$TextReader", "book", "LPriceDesk$Book;", false)
  | 4 => ("PriceDesk$TextReader", "number", "I", false)
  | _ => ("PriceDesk$TextReader", "faultKind", "I", false)
def tyX7 : Nat → FieldType := fun k => match k with
  | 0 => .object "PriceDesk$Tape"
  | 1 => .array .int
  | 2 => .array .int
  | 3 => .object "PriceDesk$Book"
  | 4 => .int
  | _ => .int
abbrev wsX70 : List Cond := u_ws RX7 TX7 6
theorem nmX7 : ∀ a, a < 6 → ∀ b, b < 6 → a ≠ b → (TX7 a).2.1 ≠ (TX7 b).2.1 := by decide +kernel
theorem tyX7_ok : ∀ k, k < 6 → parseFieldDescriptor (TX7 k).2.2.1 = some (tyX7 k) := by decide +kernel
abbrev cX7_init : ByteArray := prog_9_method_1_code
def yX7_init : MethodName := ⟨RX7, "<init>", "()V"⟩
abbrev cX7_readText : ByteArray := prog_9_method_2_code
def yX7_readText : MethodName := ⟨RX7, "readText", "()I"⟩
abbrev cX7_exchangeBook : ByteArray := prog_9_method_3_code
def yX7_exchangeBook : MethodName := ⟨RX7, "exchangeBook", "(LPriceDesk$Book;)LPriceDesk$Book;"⟩
abbrev cX7_refuse : ByteArray := prog_9_method_4_code
def yX7_refuse : MethodName := ⟨RX7, "refuse", "(I)Z"⟩
abbrev cX7_readNow : ByteArray := prog_9_method_5_code
def yX7_readNow : MethodName := ⟨RX7, "readNow", "()Z"⟩
abbrev cX7_readIndex : ByteArray := prog_9_method_6_code
def yX7_readIndex : MethodName := ⟨RX7, "readIndex", "()Z"⟩
abbrev cX7_readValues : ByteArray := prog_9_method_7_code
def yX7_readValues : MethodName := ⟨RX7, "readValues", "(LPriceDesk$Index;)Z"⟩
abbrev cX7_readContract : ByteArray := prog_9_method_8_code
def yX7_readContract : MethodName := ⟨RX7, "readContract", "()Z"⟩
abbrev cX7_readTerms : ByteArray := prog_9_method_9_code
def yX7_readTerms : MethodName := ⟨RX7, "readTerms", "(LPriceDesk$Contract;)Z"⟩
abbrev cX7_readBase : ByteArray := prog_9_method_10_code
def yX7_readBase : MethodName := ⟨RX7, "readBase", "(LPriceDesk$Contract;)Z"⟩
abbrev cX7_readRule : ByteArray := prog_9_method_11_code
def yX7_readRule : MethodName := ⟨RX7, "readRule", "(LPriceDesk$Contract;)Z"⟩
abbrev cX7_readSign : ByteArray := prog_9_method_12_code
def yX7_readSign : MethodName := ⟨RX7, "readSign", "(C)Z"⟩
abbrev cX7_readWord : ByteArray := prog_9_method_13_code
def yX7_readWord : MethodName := ⟨RX7, "readWord", "(Ljava/lang/String;)Z"⟩
abbrev cX7_readNumber : ByteArray := prog_9_method_14_code
def yX7_readNumber : MethodName := ⟨RX7, "readNumber", "(II)Z"⟩
abbrev cX7_isNumber : ByteArray := prog_9_method_15_code
def yX7_isNumber : MethodName := ⟨RX7, "isNumber", "(II)Z"⟩
abbrev cX7_isName : ByteArray := prog_9_method_16_code
def yX7_isName : MethodName := ⟨RX7, "isName", "()Z"⟩
abbrev cX7_keepName : ByteArray := prog_9_method_17_code
def yX7_keepName : MethodName := ⟨RX7, "keepName", "(I)V"⟩
abbrev cX7_indexNamed : ByteArray := prog_9_method_18_code
def yX7_indexNamed : MethodName := ⟨RX7, "indexNamed", "(I)I"⟩
def RX8 : String := "PriceDesk"
def TX8 : u_T := fun k => match k with
  | 0 => ("PriceDesk", "reader", "LPriceDesk$TextReader;", true)
  | 1 => ("PriceDesk", "book", "LPriceDesk$Book;", false)
  | 2 => ("PriceDesk", "ledger", "LPriceDesk$Ledger;", true)
  | _ => ("PriceDesk", "history", "LPriceDesk$History;", true)
def tyX8 : Nat → FieldType := fun k => match k with
  | 0 => .object "PriceDesk$TextReader"
  | 1 => .object "PriceDesk$Book"
  | 2 => .object "PriceDesk$Ledger"
  | _ => .object "PriceDesk$History"
abbrev wsX80 : List Cond := u_ws RX8 TX8 4
theorem nmX8 : ∀ a, a < 4 → ∀ b, b < 4 → a ≠ b → (TX8 a).2.1 ≠ (TX8 b).2.1 := by decide +kernel
theorem tyX8_ok : ∀ k, k < 4 → parseFieldDescriptor (TX8 k).2.2.1 = some (tyX8 k) := by decide +kernel
abbrev cX8_init : ByteArray := prog_1_method_1_code
def yX8_init : MethodName := ⟨RX8, "<init>", "()V"⟩
abbrev cX8_feed : ByteArray := prog_1_method_2_code
def yX8_feed : MethodName := ⟨RX8, "feed", "(IIIII)I"⟩
abbrev cX8_end : ByteArray := prog_1_method_3_code
def yX8_end : MethodName := ⟨RX8, "end", "(I)Z"⟩
abbrev cX8_text : ByteArray := prog_1_method_4_code
def yX8_text : MethodName := ⟨RX8, "text", "()I"⟩
abbrev cX8_fault : ByteArray := prog_1_method_5_code
def yX8_fault : MethodName := ⟨RX8, "fault", "()I"⟩
abbrev cX8_now : ByteArray := prog_1_method_6_code
def yX8_now : MethodName := ⟨RX8, "now", "(I)I"⟩
abbrev cX8_value : ByteArray := prog_1_method_7_code
def yX8_value : MethodName := ⟨RX8, "value", "(III)I"⟩
abbrev cX8_rebased : ByteArray := prog_1_method_8_code
def yX8_rebased : MethodName := ⟨RX8, "rebased", "(III)I"⟩
abbrev cX8_ratio : ByteArray := prog_1_method_9_code
def yX8_ratio : MethodName := ⟨RX8, "ratio", "(III)I"⟩
abbrev cX8_contract : ByteArray := prog_1_method_10_code
def yX8_contract : MethodName := ⟨RX8, "contract", "(II)I"⟩
abbrev cX8_price : ByteArray := prog_1_method_11_code
def yX8_price : MethodName := ⟨RX8, "price", "(III)I"⟩
abbrev cX8_were : ByteArray := prog_1_method_12_code
def yX8_were : MethodName := ⟨RX8, "were", "(III)I"⟩
abbrev cX8_rises : ByteArray := prog_1_method_13_code
def yX8_rises : MethodName := ⟨RX8, "rises", "(II)I"⟩
abbrev cX8_delivery : ByteArray := prog_1_method_14_code
def yX8_delivery : MethodName := ⟨RX8, "delivery", "(II)I"⟩
abbrev cX8_amount : ByteArray := prog_1_method_15_code
def yX8_amount : MethodName := ⟨RX8, "amount", "(II)J"⟩
abbrev cX8_statement : ByteArray := prog_1_method_16_code
def yX8_statement : MethodName := ⟨RX8, "statement", "(II)J"⟩
abbrev cX8_publish : ByteArray := prog_1_method_17_code
def yX8_publish : MethodName := ⟨RX8, "publish", "(IIIZ)I"⟩
abbrev cX8_rebase : ByteArray := prog_1_method_18_code
def yX8_rebase : MethodName := ⟨RX8, "rebase", "(III)I"⟩
abbrev cX8_deliver : ByteArray := prog_1_method_19_code
def yX8_deliver : MethodName := ⟨RX8, "deliver", "(III)I"⟩
abbrev cX8_close : ByteArray := prog_1_method_20_code
def yX8_close : MethodName := ⟨RX8, "close", "()I"⟩
abbrev cX8_undo : ByteArray := prog_1_method_21_code
def yX8_undo : MethodName := ⟨RX8, "undo", "()I"⟩
abbrev cX8_takeBackValue : ByteArray := prog_1_method_22_code
def yX8_takeBackValue : MethodName := ⟨RX8, "takeBackValue", "(I)V"⟩
abbrev cX8_takeBackRebasing : ByteArray := prog_1_method_23_code
def yX8_takeBackRebasing : MethodName := ⟨RX8, "takeBackRebasing", "(I)V"⟩
abbrev cX8_takeBackClose : ByteArray := prog_1_method_24_code
def yX8_takeBackClose : MethodName := ⟨RX8, "takeBackClose", "()V"⟩
abbrev cX8_isMonth : ByteArray := prog_1_method_25_code
def yX8_isMonth : MethodName := ⟨RX8, "isMonth", "(I)Z"⟩
abbrev cX8_isValue : ByteArray := prog_1_method_26_code
def yX8_isValue : MethodName := ⟨RX8, "isValue", "(I)Z"⟩
def RX9 : String := "PriceDeskModel"
def TX9 : u_T := fun k => match k with
  | 0 => ("PriceDeskModel", "thrown", "I", false)
  | 1 => ("PriceDeskModel", "tape", "[I", true)
  | 2 => ("PriceDeskModel", "taped", "I", false)
  | 3 => ("PriceDeskModel", "size", "I", false)
  | 4 => ("PriceDeskModel", "to", "I", false)
  | 5 => ("PriceDeskModel", "from", "I", false)
  | 6 => ("PriceDeskModel", "sort", "I", false)
  | 7 => ("PriceDeskModel", "number", "I", false)
  | 8 => ("PriceDeskModel", "sign", "I", false)
  | 9 => ("PriceDeskModel", "fault", "I", false)
  | 10 => ("PriceDeskModel", "place", "I", false)
  | 11 => ("PriceDeskModel", "word", "J", false)
  | 12 => ("PriceDeskModel", "now", "[I", true)
  | 13 => ("PriceDeskModel", "read", "[I", true)
  | 14 => ("PriceDeskModel", "snaps", "[I", true)
  | 15 => ("PriceDeskModel", "names", "[J", true)
  | _ => ("PriceDeskModel", "snapMany", "I", false)
def tyX9 : Nat → FieldType := fun k => match k with
  | 0 => .int
  | 1 => .array .int
  | 2 => .int
  | 3 => .int
  | 4 => .int
  | 5 => .int
  | 6 => .int
  | 7 => .int
  | 8 => .int
  | 9 => .int
  | 10 => .int
  | 11 => .long
  | 12 => .array .int
  | 13 => .array .int
  | 14 => .array .int
  | 15 => .array .long
  | _ => .int
abbrev wsX90 : List Cond := u_ws RX9 TX9 17
theorem nmX9 : ∀ a, a < 17 → ∀ b, b < 17 → a ≠ b → (TX9 a).2.1 ≠ (TX9 b).2.1 := by decide +kernel
theorem tyX9_ok : ∀ k, k < 17 → parseFieldDescriptor (TX9 k).2.2.1 = some (tyX9 k) := by decide +kernel
abbrev cX9_thrown : ByteArray := prog_11_method_1_code
def yX9_thrown : MethodName := ⟨RX9, "thrown", "()I"⟩
abbrev cX9_refuse : ByteArray := prog_11_method_2_code
def yX9_refuse : MethodName := ⟨RX9, "refuse", "()I"⟩
abbrev cX9_isIn : ByteArray := prog_11_method_3_code
def yX9_isIn : MethodName := ⟨RX9, "isIn", "(III)Z"⟩
abbrev cX9_lays : ByteArray := prog_11_method_4_code
def yX9_lays : MethodName := ⟨RX9, "lays", "(I)V"⟩
abbrev cX9_feed : ByteArray := prog_11_method_5_code
def yX9_feed : MethodName := ⟨RX9, "feed", "(IIIII)I"⟩
abbrev cX9_end : ByteArray := prog_11_method_6_code
def yX9_end : MethodName := ⟨RX9, "end", "(I)Z"⟩
abbrev cX9_tapeAt : ByteArray := prog_11_method_7_code
def yX9_tapeAt : MethodName := ⟨RX9, "tapeAt", "(I)I"⟩
abbrev cX9_isDigit : ByteArray := prog_11_method_8_code
def yX9_isDigit : MethodName := ⟨RX9, "isDigit", "(I)Z"⟩
abbrev cX9_isLetter : ByteArray := prog_11_method_9_code
def yX9_isLetter : MethodName := ⟨RX9, "isLetter", "(I)Z"⟩
abbrev cX9_go : ByteArray := prog_11_method_10_code
def yX9_go : MethodName := ⟨RX9, "go", "()V"⟩
abbrev cX9_four : ByteArray := prog_11_method_11_code
def yX9_four : MethodName := ⟨RX9, "four", "(IIII)J"⟩
abbrev cX9_wordOf : ByteArray := prog_11_method_12_code
def yX9_wordOf : MethodName := ⟨RX9, "wordOf", "(I)J"⟩
abbrev cX9_is : ByteArray := prog_11_method_13_code
def yX9_is : MethodName := ⟨RX9, "is", "(I)Z"⟩
abbrev cX9_isName : ByteArray := prog_11_method_14_code
def yX9_isName : MethodName := ⟨RX9, "isName", "()Z"⟩
abbrev cX9_isSign : ByteArray := prog_11_method_15_code
def yX9_isSign : MethodName := ⟨RX9, "isSign", "(I)Z"⟩
abbrev cX9_bad : ByteArray := prog_11_method_16_code
def yX9_bad : MethodName := ⟨RX9, "bad", "(I)Z"⟩
abbrev cX9_init : ByteArray := prog_11_method_17_code
def yX9_init : MethodName := ⟨RX9, "<init>", "()V"⟩
abbrev cX9_told : ByteArray := prog_11_method_18_code
def yX9_told : MethodName := ⟨RX9, "told", "(III)Z"⟩
abbrev cX9_named : ByteArray := prog_11_method_19_code
def yX9_named : MethodName := ⟨RX9, "named", "()I"⟩
abbrev cX9_readWord : ByteArray := prog_11_method_20_code
def yX9_readWord : MethodName := ⟨RX9, "readWord", "(I)Z"⟩
abbrev cX9_readIndex : ByteArray := prog_11_method_21_code
def yX9_readIndex : MethodName := ⟨RX9, "readIndex", "()Z"⟩
abbrev cX9_readTerms : ByteArray := prog_11_method_22_code
def yX9_readTerms : MethodName := ⟨RX9, "readTerms", "(I)Z"⟩
abbrev cX9_readBase : ByteArray := prog_11_method_23_code
def yX9_readBase : MethodName := ⟨RX9, "readBase", "(I)Z"⟩
abbrev cX9_readContract : ByteArray := prog_11_method_24_code
def yX9_readContract : MethodName := ⟨RX9, "readContract", "()Z"⟩
abbrev cX9_readLine : ByteArray := prog_11_method_25_code
def yX9_readLine : MethodName := ⟨RX9, "readLine", "(Z)Z"⟩
abbrev cX9_readEnd : ByteArray := prog_11_method_26_code
def yX9_readEnd : MethodName := ⟨RX9, "readEnd", "()Z"⟩
abbrev cX9_text : ByteArray := prog_11_method_27_code
def yX9_text : MethodName := ⟨RX9, "text", "()I"⟩
abbrev cX9_fault : ByteArray := prog_11_method_28_code
def yX9_fault : MethodName := ⟨RX9, "fault", "()I"⟩
abbrev cX9_month : ByteArray := prog_11_method_29_code
def yX9_month : MethodName := ⟨RX9, "month", "()I"⟩
abbrev cX9_isIndex : ByteArray := prog_11_method_30_code
def yX9_isIndex : MethodName := ⟨RX9, "isIndex", "(I)Z"⟩
abbrev cX9_isContract : ByteArray := prog_11_method_31_code
def yX9_isContract : MethodName := ⟨RX9, "isContract", "(I)Z"⟩
abbrev cX9_isDelivery : ByteArray := prog_11_method_32_code
def yX9_isDelivery : MethodName := ⟨RX9, "isDelivery", "(I)Z"⟩
abbrev cX9_isMonth : ByteArray := prog_11_method_33_code
def yX9_isMonth : MethodName := ⟨RX9, "isMonth", "(I)Z"⟩
abbrev cX9_sureOf : ByteArray := prog_11_method_34_code
def yX9_sureOf : MethodName := ⟨RX9, "sureOf", "(II)I"⟩
abbrev cX9_valueOf : ByteArray := prog_11_method_35_code
def yX9_valueOf : MethodName := ⟨RX9, "valueOf", "(II)I"⟩
abbrev cX9_knownAt : ByteArray := prog_11_method_36_code
def yX9_knownAt : MethodName := ⟨RX9, "knownAt", "(II)I"⟩
abbrev cX9_settled : ByteArray := prog_11_method_37_code
def yX9_settled : MethodName := ⟨RX9, "settled", "()I"⟩
abbrev cX9_now : ByteArray := prog_11_method_38_code
def yX9_now : MethodName := ⟨RX9, "now", "(I)I"⟩
abbrev cX9_value : ByteArray := prog_11_method_39_code
def yX9_value : MethodName := ⟨RX9, "value", "(III)I"⟩
abbrev cX9_baseOf : ByteArray := prog_11_method_40_code
def yX9_baseOf : MethodName := ⟨RX9, "baseOf", "(III)I"⟩
abbrev cX9_rebased : ByteArray := prog_11_method_41_code
def yX9_rebased : MethodName := ⟨RX9, "rebased", "(III)I"⟩
abbrev cX9_ratioOf : ByteArray := prog_11_method_42_code
def yX9_ratioOf : MethodName := ⟨RX9, "ratioOf", "(III)I"⟩
abbrev cX9_ratio : ByteArray := prog_11_method_43_code
def yX9_ratio : MethodName := ⟨RX9, "ratio", "(III)I"⟩
abbrev cX9_toldBy : ByteArray := prog_11_method_44_code
def yX9_toldBy : MethodName := ⟨RX9, "toldBy", "(II)I"⟩
abbrev cX9_contract : ByteArray := prog_11_method_45_code
def yX9_contract : MethodName := ⟨RX9, "contract", "(II)I"⟩
abbrev cX9_factorOf : ByteArray := prog_11_method_46_code
def yX9_factorOf : MethodName := ⟨RX9, "factorOf", "(II)I"⟩
abbrev cX9_moveOf : ByteArray := prog_11_method_47_code
def yX9_moveOf : MethodName := ⟨RX9, "moveOf", "(II)I"⟩
abbrev cX9_priceOf : ByteArray := prog_11_method_48_code
def yX9_priceOf : MethodName := ⟨RX9, "priceOf", "(II)I"⟩
abbrev cX9_price : ByteArray := prog_11_method_49_code
def yX9_price : MethodName := ⟨RX9, "price", "(III)I"⟩
abbrev cX9_priceBy : ByteArray := prog_11_method_50_code
def yX9_priceBy : MethodName := ⟨RX9, "priceBy", "(III)I"⟩
abbrev cX9_were : ByteArray := prog_11_method_51_code
def yX9_were : MethodName := ⟨RX9, "were", "(III)I"⟩
abbrev cX9_rises : ByteArray := prog_11_method_52_code
def yX9_rises : MethodName := ⟨RX9, "rises", "(II)I"⟩
abbrev cX9_its : ByteArray := prog_11_method_53_code
def yX9_its : MethodName := ⟨RX9, "its", "(II)I"⟩
abbrev cX9_waits : ByteArray := prog_11_method_54_code
def yX9_waits : MethodName := ⟨RX9, "waits", "(I)I"⟩
abbrev cX9_delivery : ByteArray := prog_11_method_55_code
def yX9_delivery : MethodName := ⟨RX9, "delivery", "(II)I"⟩
abbrev cX9_billed : ByteArray := prog_11_method_56_code
def yX9_billed : MethodName := ⟨RX9, "billed", "(I)J"⟩
abbrev cX9_amount : ByteArray := prog_11_method_57_code
def yX9_amount : MethodName := ⟨RX9, "amount", "(II)J"⟩
abbrev cX9_statement : ByteArray := prog_11_method_58_code
def yX9_statement : MethodName := ⟨RX9, "statement", "(II)J"⟩
abbrev cX9_snap : ByteArray := prog_11_method_59_code
def yX9_snap : MethodName := ⟨RX9, "snap", "()V"⟩
abbrev cX9_lastBase : ByteArray := prog_11_method_60_code
def yX9_lastBase : MethodName := ⟨RX9, "lastBase", "(I)I"⟩
abbrev cX9_publish : ByteArray := prog_11_method_61_code
def yX9_publish : MethodName := ⟨RX9, "publish", "(IIIZ)I"⟩
abbrev cX9_rebase : ByteArray := prog_11_method_62_code
def yX9_rebase : MethodName := ⟨RX9, "rebase", "(III)I"⟩
abbrev cX9_deliver : ByteArray := prog_11_method_63_code
def yX9_deliver : MethodName := ⟨RX9, "deliver", "(III)I"⟩
abbrev cX9_close : ByteArray := prog_11_method_64_code
def yX9_close : MethodName := ⟨RX9, "close", "()I"⟩
abbrev cX9_undo : ByteArray := prog_11_method_65_code
def yX9_undo : MethodName := ⟨RX9, "undo", "()I"⟩
def RJx145de : String := "java/io/Serializable"
def TJx145de : u_T := fun k => match k with
  | _ => ("", "", "", false)
def tyJx145de : Nat → FieldType := fun k => match k with
  | _ => .int
abbrev wsJx145de0 : List Cond := u_ws RJx145de TJx145de 0
theorem nmJx145de : ∀ a, a < 0 → ∀ b, b < 0 → a ≠ b → (TJx145de a).2.1 ≠ (TJx145de b).2.1 := by decide +kernel
theorem tyJx145de_ok : ∀ k, k < 0 → parseFieldDescriptor (TJx145de k).2.2.1 = some (tyJx145de k) := by decide +kernel
def RJx9f9b0 : String := "java/lang/CharSequence"
def TJx9f9b0 : u_T := fun k => match k with
  | _ => ("", "", "", false)
def tyJx9f9b0 : Nat → FieldType := fun k => match k with
  | _ => .int
abbrev wsJx9f9b00 : List Cond := u_ws RJx9f9b0 TJx9f9b0 0
theorem nmJx9f9b0 : ∀ a, a < 0 → ∀ b, b < 0 → a ≠ b → (TJx9f9b0 a).2.1 ≠ (TJx9f9b0 b).2.1 := by decide +kernel
theorem tyJx9f9b0_ok : ∀ k, k < 0 → parseFieldDescriptor (TJx9f9b0 k).2.2.1 = some (tyJx9f9b0 k) := by decide +kernel
def RJxb160c : String := "java/lang/Comparable"
def TJxb160c : u_T := fun k => match k with
  | _ => ("", "", "", false)
def tyJxb160c : Nat → FieldType := fun k => match k with
  | _ => .int
abbrev wsJxb160c0 : List Cond := u_ws RJxb160c TJxb160c 0
theorem nmJxb160c : ∀ a, a < 0 → ∀ b, b < 0 → a ≠ b → (TJxb160c a).2.1 ≠ (TJxb160c b).2.1 := by decide +kernel
theorem tyJxb160c_ok : ∀ k, k < 0 → parseFieldDescriptor (TJxb160c k).2.2.1 = some (tyJxb160c k) := by decide +kernel
def RJ9 : String := "java/lang/Math"
def TJ9 : u_T := fun k => match k with
  | _ => ("", "", "", false)
def tyJ9 : Nat → FieldType := fun k => match k with
  | _ => .int
abbrev wsJ90 : List Cond := u_ws RJ9 TJ9 0
theorem nmJ9 : ∀ a, a < 0 → ∀ b, b < 0 → a ≠ b → (TJ9 a).2.1 ≠ (TJ9 b).2.1 := by decide +kernel
theorem tyJ9_ok : ∀ k, k < 0 → parseFieldDescriptor (TJ9 k).2.2.1 = some (tyJ9 k) := by decide +kernel
abbrev cJ9_abs_0f7a4 : ByteArray := prog_16_method_59_code
def yJ9_abs_0f7a4 : MethodName := ⟨RJ9, "abs", "(I)I"⟩
abbrev cJ9_max_7cf53 : ByteArray := prog_16_method_65_code
def yJ9_max_7cf53 : MethodName := ⟨RJ9, "max", "(II)I"⟩
abbrev cJ9_min_7cf53 : ByteArray := prog_16_method_69_code
def yJ9_min_7cf53 : MethodName := ⟨RJ9, "min", "(II)I"⟩
abbrev cJ9_min_f86c9 : ByteArray := prog_16_method_70_code
def yJ9_min_f86c9 : MethodName := ⟨RJ9, "min", "(JJ)J"⟩
def RJ0 : String := "java/lang/String"
def TJ0 : u_T := fun k => match k with
  | _ => ("", "", "", false)
def tyJ0 : Nat → FieldType := fun k => match k with
  | _ => .int
abbrev wsJ00 : List Cond := u_ws RJ0 TJ0 0
theorem nmJ0 : ∀ a, a < 0 → ∀ b, b < 0 → a ≠ b → (TJ0 a).2.1 ≠ (TJ0 b).2.1 := by decide +kernel
theorem tyJ0_ok : ∀ k, k < 0 → parseFieldDescriptor (TJ0 k).2.2.1 = some (tyJ0 k) := by decide +kernel
abbrev cJ0_length_8abf5 : ByteArray := prog_18_method_54_code
def yJ0_length_8abf5 : MethodName := ⟨RJ0, "length", "()I"⟩
abbrev cJ0_charAt_5068e : ByteArray := prog_18_method_56_code
def yJ0_charAt_5068e : MethodName := ⟨RJ0, "charAt", "(I)C"⟩
abbrev cJ0_coder_7d493 : ByteArray := prog_18_method_152_code
def yJ0_coder_7d493 : MethodName := ⟨RJ0, "coder", "()B"⟩
abbrev cJ0_isLatin1_aae02 : ByteArray := prog_18_method_154_code
def yJ0_isLatin1_aae02 : MethodName := ⟨RJ0, "isLatin1", "()Z"⟩
abbrev cJ0_checkIndex_df160 : ByteArray := prog_18_method_155_code
def yJ0_checkIndex_df160 : MethodName := ⟨RJ0, "checkIndex", "(II)V"⟩
def RJ1 : String := "java/lang/StringLatin1"
def TJ1 : u_T := fun k => match k with
  | _ => ("", "", "", false)
def tyJ1 : Nat → FieldType := fun k => match k with
  | _ => .int
abbrev wsJ10 : List Cond := u_ws RJ1 TJ1 0
theorem nmJ1 : ∀ a, a < 0 → ∀ b, b < 0 → a ≠ b → (TJ1 a).2.1 ≠ (TJ1 b).2.1 := by decide +kernel
theorem tyJ1_ok : ∀ k, k < 0 → parseFieldDescriptor (TJ1 k).2.2.1 = some (tyJ1 k) := by decide +kernel
abbrev cJ1_charAt_3b067 : ByteArray := prog_19_method_2_code
def yJ1_charAt_3b067 : MethodName := ⟨RJ1, "charAt", "([BI)C"⟩
def RJ2 : String := "java/lang/StringUTF16"
def TJ2 : u_T := fun k => match k with
  | _ => ("", "", "", false)
def tyJ2 : Nat → FieldType := fun k => match k with
  | _ => .int
abbrev wsJ20 : List Cond := u_ws RJ2 TJ2 0
theorem nmJ2 : ∀ a, a < 0 → ∀ b, b < 0 → a ≠ b → (TJ2 a).2.1 ≠ (TJ2 b).2.1 := by decide +kernel
theorem tyJ2_ok : ∀ k, k < 0 → parseFieldDescriptor (TJ2 k).2.2.1 = some (tyJ2 k) := by decide +kernel
abbrev cJ2_getChar_3b067 : ByteArray := prog_20_method_5_code
def yJ2_getChar_3b067 : MethodName := ⟨RJ2, "getChar", "([BI)C"⟩
abbrev cJ2_length_9d52b : ByteArray := prog_20_method_6_code
def yJ2_length_9d52b : MethodName := ⟨RJ2, "length", "([B)I"⟩
abbrev cJ2_charAt_3b067 : ByteArray := prog_20_method_83_code
def yJ2_charAt_3b067 : MethodName := ⟨RJ2, "charAt", "([BI)C"⟩
abbrev cJ2_checkIndex_2214a : ByteArray := prog_20_method_91_code
def yJ2_checkIndex_2214a : MethodName := ⟨RJ2, "checkIndex", "(I[B)V"⟩
def RJxfd54e : String := "java/lang/constant/Constable"
def TJxfd54e : u_T := fun k => match k with
  | _ => ("", "", "", false)
def tyJxfd54e : Nat → FieldType := fun k => match k with
  | _ => .int
abbrev wsJxfd54e0 : List Cond := u_ws RJxfd54e TJxfd54e 0
theorem nmJxfd54e : ∀ a, a < 0 → ∀ b, b < 0 → a ≠ b → (TJxfd54e a).2.1 ≠ (TJxfd54e b).2.1 := by decide +kernel
theorem tyJxfd54e_ok : ∀ k, k < 0 → parseFieldDescriptor (TJxfd54e k).2.2.1 = some (tyJxfd54e k) := by decide +kernel
def RJx3cf43 : String := "java/lang/constant/ConstantDesc"
def TJx3cf43 : u_T := fun k => match k with
  | _ => ("", "", "", false)
def tyJx3cf43 : Nat → FieldType := fun k => match k with
  | _ => .int
abbrev wsJx3cf430 : List Cond := u_ws RJx3cf43 TJx3cf43 0
theorem nmJx3cf43 : ∀ a, a < 0 → ∀ b, b < 0 → a ≠ b → (TJx3cf43 a).2.1 ≠ (TJx3cf43 b).2.1 := by decide +kernel
theorem tyJx3cf43_ok : ∀ k, k < 0 → parseFieldDescriptor (TJx3cf43 k).2.2.1 = some (tyJx3cf43 k) := by decide +kernel
def RJ3 : String := "jdk/internal/util/Preconditions"
def TJ3 : u_T := fun k => match k with
  | _ => ("", "", "", false)
def tyJ3 : Nat → FieldType := fun k => match k with
  | _ => .int
abbrev wsJ30 : List Cond := u_ws RJ3 TJ3 0
theorem nmJ3 : ∀ a, a < 0 → ∀ b, b < 0 → a ≠ b → (TJ3 a).2.1 ≠ (TJ3 b).2.1 := by decide +kernel
theorem tyJ3_ok : ∀ k, k < 0 → parseFieldDescriptor (TJ3 k).2.2.1 = some (tyJ3 k) := by decide +kernel
abbrev cJ3_checkIndex_8e157 : ByteArray := prog_25_method_11_code
def yJ3_checkIndex_8e157 : MethodName := ⟨RJ3, "checkIndex", "(IILjava/util/function/BiFunction;)I"⟩
def RL : String := "PriceDeskLaw"
abbrev cL_ratio : ByteArray := method_3_code
def yL_ratio : MethodName := ⟨RL, "ratio", "(LPriceDesk;III[J)I"⟩
abbrev cL_price : ByteArray := method_4_code
def yL_price : MethodName := ⟨RL, "price", "(LPriceDesk;III[J)I"⟩
abbrev cL_amount : ByteArray := method_5_code
def yL_amount : MethodName := ⟨RL, "amount", "(LPriceDesk;II[J)I"⟩
abbrev cL_statement : ByteArray := method_6_code
def yL_statement : MethodName := ⟨RL, "statement", "(LPriceDesk;II[J)I"⟩
abbrev cL_law : ByteArray := code
def yL_law : MethodName := ⟨RL, "law", "([I)Z"⟩
def wsJ0_coder_7d493 : List Cond := .code yJ0_coder_7d493 cJ0_coder_7d493 1 (some .byte) :: ([.fieldLink RJ0 38 "java/lang/String" "COMPACT_STRINGS" "Z", .fieldLink RJ0 15 "java/lang/String" "coder" "B"])
def wsJ0_length_8abf5 : List Cond := .code yJ0_length_8abf5 cJ0_length_8abf5 1 (some .int) :: ([.fieldLink RJ0 9 "java/lang/String" "value" "[B", .methodLink RJ0 335 yJ0_coder_7d493, .instanceMethod yJ0_coder_7d493, .selects RJ0 yJ0_coder_7d493 yJ0_coder_7d493, .initialized RJ0, .code yJ0_coder_7d493 cJ0_coder_7d493 1 (some .byte), .fieldLink RJ0 38 "java/lang/String" "COMPACT_STRINGS" "Z", .fieldLink RJ0 15 "java/lang/String" "coder" "B"])
def wsJ0_isLatin1_aae02 : List Cond := .code yJ0_isLatin1_aae02 cJ0_isLatin1_aae02 1 (some .boolean) :: ([.fieldLink RJ0 38 "java/lang/String" "COMPACT_STRINGS" "Z", .fieldLink RJ0 15 "java/lang/String" "coder" "B"])
def wsJ3_checkIndex_8e157 : List Cond := .code yJ3_checkIndex_8e157 cJ3_checkIndex_8e157 3 (some .int) :: ([])
def wsJ0_checkIndex_df160 : List Cond := .code yJ0_checkIndex_df160 cJ0_checkIndex_df160 2 none :: ([.fieldLink RJ0 1053 "jdk/internal/util/Preconditions" "SIOOBE_FORMATTER" "Ljava/util/function/BiFunction;", .methodLink RJ0 1059 yJ3_checkIndex_8e157, .static yJ3_checkIndex_8e157, .initialized RJ3, .code yJ3_checkIndex_8e157 cJ3_checkIndex_8e157 3 (some .int)])
def wsJ1_charAt_3b067 : List Cond := .code yJ1_charAt_3b067 cJ1_charAt_3b067 2 (some .char) :: ([.methodLink RJ1 9 yJ0_checkIndex_df160, .static yJ0_checkIndex_df160, .initialized RJ0, .code yJ0_checkIndex_df160 cJ0_checkIndex_df160 2 none, .fieldLink RJ0 1053 "jdk/internal/util/Preconditions" "SIOOBE_FORMATTER" "Ljava/util/function/BiFunction;", .methodLink RJ0 1059 yJ3_checkIndex_8e157, .static yJ3_checkIndex_8e157, .initialized RJ3, .code yJ3_checkIndex_8e157 cJ3_checkIndex_8e157 3 (some .int)])
def wsJ2_length_9d52b : List Cond := .code yJ2_length_9d52b cJ2_length_9d52b 1 (some .int) :: ([])
def wsJ2_checkIndex_2214a : List Cond := .code yJ2_checkIndex_2214a cJ2_checkIndex_2214a 2 none :: ([.methodLink RJ2 48 yJ2_length_9d52b, .static yJ2_length_9d52b, .initialized RJ2, .code yJ2_length_9d52b cJ2_length_9d52b 1 (some .int), .methodLink RJ2 414 yJ0_checkIndex_df160, .static yJ0_checkIndex_df160, .initialized RJ0, .code yJ0_checkIndex_df160 cJ0_checkIndex_df160 2 none, .fieldLink RJ0 1053 "jdk/internal/util/Preconditions" "SIOOBE_FORMATTER" "Ljava/util/function/BiFunction;", .methodLink RJ0 1059 yJ3_checkIndex_8e157, .static yJ3_checkIndex_8e157, .initialized RJ3, .code yJ3_checkIndex_8e157 cJ3_checkIndex_8e157 3 (some .int)])
def wsJ2_getChar_3b067 : List Cond := .code yJ2_getChar_3b067 cJ2_getChar_3b067 2 (some .char) :: ([.fieldLink RJ2 44 "java/lang/StringUTF16" "$assertionsDisabled" "Z", .fieldLink RJ2 59 "java/lang/StringUTF16" "HI_BYTE_SHIFT" "I", .fieldLink RJ2 63 "java/lang/StringUTF16" "LO_BYTE_SHIFT" "I", .methodLink RJ2 48 yJ2_length_9d52b, .static yJ2_length_9d52b, .initialized RJ2, .code yJ2_length_9d52b cJ2_length_9d52b 1 (some .int)])
def wsJ2_charAt_3b067 : List Cond := .code yJ2_charAt_3b067 cJ2_charAt_3b067 2 (some .char) :: ([.methodLink RJ2 67 yJ2_checkIndex_2214a, .static yJ2_checkIndex_2214a, .initialized RJ2, .code yJ2_checkIndex_2214a cJ2_checkIndex_2214a 2 none, .methodLink RJ2 48 yJ2_length_9d52b, .static yJ2_length_9d52b, .code yJ2_length_9d52b cJ2_length_9d52b 1 (some .int), .methodLink RJ2 414 yJ0_checkIndex_df160, .static yJ0_checkIndex_df160, .initialized RJ0, .code yJ0_checkIndex_df160 cJ0_checkIndex_df160 2 none, .fieldLink RJ0 1053 "jdk/internal/util/Preconditions" "SIOOBE_FORMATTER" "Ljava/util/function/BiFunction;", .methodLink RJ0 1059 yJ3_checkIndex_8e157, .static yJ3_checkIndex_8e157, .initialized RJ3, .code yJ3_checkIndex_8e157 cJ3_checkIndex_8e157 3 (some .int), .methodLink RJ2 71 yJ2_getChar_3b067, .static yJ2_getChar_3b067, .code yJ2_getChar_3b067 cJ2_getChar_3b067 2 (some .char), .fieldLink RJ2 44 "java/lang/StringUTF16" "$assertionsDisabled" "Z", .fieldLink RJ2 59 "java/lang/StringUTF16" "HI_BYTE_SHIFT" "I", .fieldLink RJ2 63 "java/lang/StringUTF16" "LO_BYTE_SHIFT" "I"])
def wsJ0_charAt_5068e_r1 : List Cond := [Cond.fieldLink RJ0 9 "java/lang/String" "value" "[B", Cond.methodLink RJ0 492 yJ0_isLatin1_aae02, Cond.instanceMethod yJ0_isLatin1_aae02, Cond.selects RJ0 yJ0_isLatin1_aae02 yJ0_isLatin1_aae02, Cond.initialized RJ0, Cond.code yJ0_isLatin1_aae02 cJ0_isLatin1_aae02 1 (some .boolean), Cond.fieldLink RJ0 38 "java/lang/String" "COMPACT_STRINGS" "Z", Cond.fieldLink RJ0 15 "java/lang/String" "coder" "B", Cond.methodLink RJ0 495 yJ1_charAt_3b067, Cond.static yJ1_charAt_3b067, Cond.initialized RJ1, Cond.code yJ1_charAt_3b067 cJ1_charAt_3b067 2 (some .char), Cond.methodLink RJ1 9 yJ0_checkIndex_df160, Cond.static yJ0_checkIndex_df160, Cond.code yJ0_checkIndex_df160 cJ0_checkIndex_df160 2 none, Cond.fieldLink RJ0 1053 "jdk/internal/util/Preconditions" "SIOOBE_FORMATTER" "Ljava/util/function/BiFunction;", Cond.methodLink RJ0 1059 yJ3_checkIndex_8e157, Cond.static yJ3_checkIndex_8e157, Cond.initialized RJ3, Cond.code yJ3_checkIndex_8e157 cJ3_checkIndex_8e157 3 (some .int), Cond.methodLink RJ0 498 yJ2_charAt_3b067, Cond.static yJ2_charAt_3b067, Cond.initialized RJ2, Cond.code yJ2_charAt_3b067 cJ2_charAt_3b067 2 (some .char)]
def wsJ0_charAt_5068e_r2 : List Cond := [Cond.methodLink RJ2 67 yJ2_checkIndex_2214a, Cond.static yJ2_checkIndex_2214a, Cond.code yJ2_checkIndex_2214a cJ2_checkIndex_2214a 2 none, Cond.methodLink RJ2 48 yJ2_length_9d52b, Cond.static yJ2_length_9d52b, Cond.code yJ2_length_9d52b cJ2_length_9d52b 1 (some .int), Cond.methodLink RJ2 414 yJ0_checkIndex_df160, Cond.methodLink RJ2 71 yJ2_getChar_3b067, Cond.static yJ2_getChar_3b067, Cond.code yJ2_getChar_3b067 cJ2_getChar_3b067 2 (some .char), Cond.fieldLink RJ2 44 "java/lang/StringUTF16" "$assertionsDisabled" "Z", Cond.fieldLink RJ2 59 "java/lang/StringUTF16" "HI_BYTE_SHIFT" "I", Cond.fieldLink RJ2 63 "java/lang/StringUTF16" "LO_BYTE_SHIFT" "I"]
def wsJ0_charAt_5068e : List Cond := .code yJ0_charAt_5068e cJ0_charAt_5068e 2 (some .char) :: ((wsJ0_charAt_5068e_r1 ++ wsJ0_charAt_5068e_r2))
def wsJ9_abs_0f7a4 : List Cond := .code yJ9_abs_0f7a4 cJ9_abs_0f7a4 1 (some .int) :: ([])
def wsJ9_max_7cf53 : List Cond := .code yJ9_max_7cf53 cJ9_max_7cf53 2 (some .int) :: ([])
def wsJ9_min_7cf53 : List Cond := .code yJ9_min_7cf53 cJ9_min_7cf53 2 (some .int) :: ([])
def wsJ9_min_f86c9 : List Cond := .code yJ9_min_f86c9 cJ9_min_f86c9 4 (some .long) :: ([])
theorem inJx145de : ∀ w ∈ wsJx145de0, w ∈ lw_tbl := by decide +kernel
theorem inJx9f9b0 : ∀ w ∈ wsJx9f9b00, w ∈ lw_tbl := by decide +kernel
theorem inJxb160c : ∀ w ∈ wsJxb160c0, w ∈ lw_tbl := by decide +kernel
theorem inJ9 : ∀ w ∈ wsJ90, w ∈ lw_tbl := by decide +kernel
theorem inJ0 : ∀ w ∈ wsJ00, w ∈ lw_tbl := by decide +kernel
theorem inJ1 : ∀ w ∈ wsJ10, w ∈ lw_tbl := by decide +kernel
theorem inJ2 : ∀ w ∈ wsJ20, w ∈ lw_tbl := by decide +kernel
theorem inJxfd54e : ∀ w ∈ wsJxfd54e0, w ∈ lw_tbl := by decide +kernel
theorem inJx3cf43 : ∀ w ∈ wsJx3cf430, w ∈ lw_tbl := by decide +kernel
theorem inJ3 : ∀ w ∈ wsJ30, w ∈ lw_tbl := by decide +kernel
theorem dJ9_abs_0f7a4_0 : decode cJ9_abs_0f7a4 0 = .ok (.iload_n 0, 1) := by decide +kernel
theorem dJ9_abs_0f7a4_1 : decode cJ9_abs_0f7a4 1 = .ok (.ifCond .ge 8, 3) := by decide +kernel
theorem dJ9_abs_0f7a4_4 : decode cJ9_abs_0f7a4 4 = .ok (.iload_n 0, 1) := by decide +kernel
theorem dJ9_abs_0f7a4_5 : decode cJ9_abs_0f7a4 5 = .ok (.ineg, 1) := by decide +kernel
theorem dJ9_abs_0f7a4_6 : decode cJ9_abs_0f7a4 6 = .ok (.goto 4, 3) := by decide +kernel
theorem dJ9_abs_0f7a4_9 : decode cJ9_abs_0f7a4 9 = .ok (.iload_n 0, 1) := by decide +kernel
theorem dJ9_abs_0f7a4_10 : decode cJ9_abs_0f7a4 10 = .ok (.ireturn, 1) := by decide +kernel
theorem dJ9_max_7cf53_0 : decode cJ9_max_7cf53 0 = .ok (.iload_n 0, 1) := by decide +kernel
theorem dJ9_max_7cf53_1 : decode cJ9_max_7cf53 1 = .ok (.iload_n 1, 1) := by decide +kernel
theorem dJ9_max_7cf53_2 : decode cJ9_max_7cf53 2 = .ok (.if_icmp .lt 7, 3) := by decide +kernel
theorem dJ9_max_7cf53_5 : decode cJ9_max_7cf53 5 = .ok (.iload_n 0, 1) := by decide +kernel
theorem dJ9_max_7cf53_6 : decode cJ9_max_7cf53 6 = .ok (.goto 4, 3) := by decide +kernel
theorem dJ9_max_7cf53_9 : decode cJ9_max_7cf53 9 = .ok (.iload_n 1, 1) := by decide +kernel
theorem dJ9_max_7cf53_10 : decode cJ9_max_7cf53 10 = .ok (.ireturn, 1) := by decide +kernel
theorem dJ9_min_7cf53_0 : decode cJ9_min_7cf53 0 = .ok (.iload_n 0, 1) := by decide +kernel
theorem dJ9_min_7cf53_1 : decode cJ9_min_7cf53 1 = .ok (.iload_n 1, 1) := by decide +kernel
theorem dJ9_min_7cf53_2 : decode cJ9_min_7cf53 2 = .ok (.if_icmp .gt 7, 3) := by decide +kernel
theorem dJ9_min_7cf53_5 : decode cJ9_min_7cf53 5 = .ok (.iload_n 0, 1) := by decide +kernel
theorem dJ9_min_7cf53_6 : decode cJ9_min_7cf53 6 = .ok (.goto 4, 3) := by decide +kernel
theorem dJ9_min_7cf53_9 : decode cJ9_min_7cf53 9 = .ok (.iload_n 1, 1) := by decide +kernel
theorem dJ9_min_7cf53_10 : decode cJ9_min_7cf53 10 = .ok (.ireturn, 1) := by decide +kernel
theorem dJ9_min_f86c9_0 : decode cJ9_min_f86c9 0 = .ok (.lload_n 0, 1) := by decide +kernel
theorem dJ9_min_f86c9_1 : decode cJ9_min_f86c9 1 = .ok (.lload_n 2, 1) := by decide +kernel
theorem dJ9_min_f86c9_2 : decode cJ9_min_f86c9 2 = .ok (.lcmp, 1) := by decide +kernel
theorem dJ9_min_f86c9_3 : decode cJ9_min_f86c9 3 = .ok (.ifCond .gt 7, 3) := by decide +kernel
theorem dJ9_min_f86c9_6 : decode cJ9_min_f86c9 6 = .ok (.lload_n 0, 1) := by decide +kernel
theorem dJ9_min_f86c9_7 : decode cJ9_min_f86c9 7 = .ok (.goto 4, 3) := by decide +kernel
theorem dJ9_min_f86c9_10 : decode cJ9_min_f86c9 10 = .ok (.lload_n 2, 1) := by decide +kernel
theorem dJ9_min_f86c9_11 : decode cJ9_min_f86c9 11 = .ok (.lreturn, 1) := by decide +kernel
set_option maxRecDepth 20000 in
theorem ggJ0_length_8abf5_J0_coder_7d493 : GoodIn wsJ0_length_8abf5 wsJ0_coder_7d493 := goodIn_r _ [6, 7, 8] (by decide +kernel) (by decide +kernel)
set_option maxRecDepth 20000 in
theorem gJ0_length_8abf5_J0_coder_7d493 : GoodIn wsJ0_length_8abf5 (wsV RJ0 335 RJ0 yJ0_coder_7d493 wsJ0_coder_7d493) := goodIn_app (goodIn_of _ (by decide +kernel)) ggJ0_length_8abf5_J0_coder_7d493
theorem dJ0_length_8abf5_0 : decode cJ0_length_8abf5 0 = .ok (.aload_n 0, 1) := by decide +kernel
theorem dJ0_length_8abf5_1 : decode cJ0_length_8abf5 1 = .ok (.getfield 9, 3) := by decide +kernel
theorem dJ0_length_8abf5_4 : decode cJ0_length_8abf5 4 = .ok (.arraylength, 1) := by decide +kernel
theorem dJ0_length_8abf5_5 : decode cJ0_length_8abf5 5 = .ok (.aload_n 0, 1) := by decide +kernel
theorem dJ0_length_8abf5_6 : decode cJ0_length_8abf5 6 = .ok (.invokevirtual 335, 3) := by decide +kernel
theorem dJ0_length_8abf5_9 : decode cJ0_length_8abf5 9 = .ok (.ishr, 1) := by decide +kernel
theorem dJ0_length_8abf5_10 : decode cJ0_length_8abf5 10 = .ok (.ireturn, 1) := by decide +kernel
set_option maxRecDepth 20000 in
theorem ggJ0_charAt_5068e_J0_isLatin1_aae02 : GoodIn wsJ0_charAt_5068e wsJ0_isLatin1_aae02 := goodIn_r _ [6, 7, 8] (by decide +kernel) (by decide +kernel)
set_option maxRecDepth 20000 in
theorem gJ0_charAt_5068e_J0_isLatin1_aae02 : GoodIn wsJ0_charAt_5068e (wsV RJ0 492 RJ0 yJ0_isLatin1_aae02 wsJ0_isLatin1_aae02) := goodIn_app (goodIn_of _ (by decide +kernel)) ggJ0_charAt_5068e_J0_isLatin1_aae02
set_option maxRecDepth 20000 in
theorem ggJ0_charAt_5068e_J1_charAt_3b067 : GoodIn wsJ0_charAt_5068e wsJ1_charAt_3b067 := goodIn_r _ [12, 13, 14, 5, 15, 16, 17, 18, 19, 20] (by decide +kernel) (by decide +kernel)
set_option maxRecDepth 20000 in
theorem gJ0_charAt_5068e_J1_charAt_3b067 : GoodIn wsJ0_charAt_5068e (va_wsS RJ0 495 yJ1_charAt_3b067 wsJ1_charAt_3b067) := goodIn_app (goodIn_of _ (by decide +kernel)) ggJ0_charAt_5068e_J1_charAt_3b067
set_option maxRecDepth 20000 in
theorem ggJ0_charAt_5068e_J2_charAt_3b067 : GoodIn wsJ0_charAt_5068e wsJ2_charAt_3b067 := goodIn_r _ [24, 25, 26, 23, 27, 28, 29, 30, 31, 14, 5, 15, 16, 17, 18, 19, 20, 32, 33, 34, 35, 36, 37] (by decide +kernel) (by decide +kernel)
set_option maxRecDepth 20000 in
theorem gJ0_charAt_5068e_J2_charAt_3b067 : GoodIn wsJ0_charAt_5068e (va_wsS RJ0 498 yJ2_charAt_3b067 wsJ2_charAt_3b067) := goodIn_app (goodIn_of _ (by decide +kernel)) ggJ0_charAt_5068e_J2_charAt_3b067
theorem dJ0_charAt_5068e_0 : decode cJ0_charAt_5068e 0 = .ok (.aload_n 0, 1) := by decide +kernel
theorem dJ0_charAt_5068e_1 : decode cJ0_charAt_5068e 1 = .ok (.invokevirtual 492, 3) := by decide +kernel
theorem dJ0_charAt_5068e_4 : decode cJ0_charAt_5068e 4 = .ok (.ifCond .eq 12, 3) := by decide +kernel
theorem dJ0_charAt_5068e_7 : decode cJ0_charAt_5068e 7 = .ok (.aload_n 0, 1) := by decide +kernel
theorem dJ0_charAt_5068e_8 : decode cJ0_charAt_5068e 8 = .ok (.getfield 9, 3) := by decide +kernel
theorem dJ0_charAt_5068e_11 : decode cJ0_charAt_5068e 11 = .ok (.iload_n 1, 1) := by decide +kernel
theorem dJ0_charAt_5068e_12 : decode cJ0_charAt_5068e 12 = .ok (.invokestatic 495, 3) := by decide +kernel
theorem dJ0_charAt_5068e_15 : decode cJ0_charAt_5068e 15 = .ok (.ireturn, 1) := by decide +kernel
theorem dJ0_charAt_5068e_16 : decode cJ0_charAt_5068e 16 = .ok (.aload_n 0, 1) := by decide +kernel
theorem dJ0_charAt_5068e_17 : decode cJ0_charAt_5068e 17 = .ok (.getfield 9, 3) := by decide +kernel
theorem dJ0_charAt_5068e_20 : decode cJ0_charAt_5068e 20 = .ok (.iload_n 1, 1) := by decide +kernel
theorem dJ0_charAt_5068e_21 : decode cJ0_charAt_5068e 21 = .ok (.invokestatic 498, 3) := by decide +kernel
theorem dJ0_charAt_5068e_24 : decode cJ0_charAt_5068e 24 = .ok (.ireturn, 1) := by decide +kernel
theorem dJ0_coder_7d493_0 : decode cJ0_coder_7d493 0 = .ok (.getstatic 38, 3) := by decide +kernel
theorem dJ0_coder_7d493_3 : decode cJ0_coder_7d493 3 = .ok (.ifCond .eq 10, 3) := by decide +kernel
theorem dJ0_coder_7d493_6 : decode cJ0_coder_7d493 6 = .ok (.aload_n 0, 1) := by decide +kernel
theorem dJ0_coder_7d493_7 : decode cJ0_coder_7d493 7 = .ok (.getfield 15, 3) := by decide +kernel
theorem dJ0_coder_7d493_10 : decode cJ0_coder_7d493 10 = .ok (.goto 4, 3) := by decide +kernel
theorem dJ0_coder_7d493_13 : decode cJ0_coder_7d493 13 = .ok (.iconst 1, 1) := by decide +kernel
theorem dJ0_coder_7d493_14 : decode cJ0_coder_7d493 14 = .ok (.ireturn, 1) := by decide +kernel
theorem dJ0_isLatin1_aae02_0 : decode cJ0_isLatin1_aae02 0 = .ok (.getstatic 38, 3) := by decide +kernel
theorem dJ0_isLatin1_aae02_3 : decode cJ0_isLatin1_aae02 3 = .ok (.ifCond .eq 14, 3) := by decide +kernel
theorem dJ0_isLatin1_aae02_6 : decode cJ0_isLatin1_aae02 6 = .ok (.aload_n 0, 1) := by decide +kernel
theorem dJ0_isLatin1_aae02_7 : decode cJ0_isLatin1_aae02 7 = .ok (.getfield 15, 3) := by decide +kernel
theorem dJ0_isLatin1_aae02_10 : decode cJ0_isLatin1_aae02 10 = .ok (.ifCond .ne 7, 3) := by decide +kernel
theorem dJ0_isLatin1_aae02_13 : decode cJ0_isLatin1_aae02 13 = .ok (.iconst 1, 1) := by decide +kernel
theorem dJ0_isLatin1_aae02_14 : decode cJ0_isLatin1_aae02 14 = .ok (.goto 4, 3) := by decide +kernel
theorem dJ0_isLatin1_aae02_17 : decode cJ0_isLatin1_aae02 17 = .ok (.iconst 0, 1) := by decide +kernel
theorem dJ0_isLatin1_aae02_18 : decode cJ0_isLatin1_aae02 18 = .ok (.ireturn, 1) := by decide +kernel
set_option maxRecDepth 20000 in
theorem ggJ0_checkIndex_df160_J3_checkIndex_8e157 : GoodIn wsJ0_checkIndex_df160 wsJ3_checkIndex_8e157 := goodIn_r _ [5] (by decide +kernel) (by decide +kernel)
set_option maxRecDepth 20000 in
theorem gJ0_checkIndex_df160_J3_checkIndex_8e157 : GoodIn wsJ0_checkIndex_df160 (va_wsS RJ0 1059 yJ3_checkIndex_8e157 wsJ3_checkIndex_8e157) := goodIn_app (goodIn_of _ (by decide +kernel)) ggJ0_checkIndex_df160_J3_checkIndex_8e157
theorem dJ0_checkIndex_df160_0 : decode cJ0_checkIndex_df160 0 = .ok (.iload_n 0, 1) := by decide +kernel
theorem dJ0_checkIndex_df160_1 : decode cJ0_checkIndex_df160 1 = .ok (.iload_n 1, 1) := by decide +kernel
theorem dJ0_checkIndex_df160_2 : decode cJ0_checkIndex_df160 2 = .ok (.getstatic 1053, 3) := by decide +kernel
theorem dJ0_checkIndex_df160_5 : decode cJ0_checkIndex_df160 5 = .ok (.invokestatic 1059, 3) := by decide +kernel
theorem dJ0_checkIndex_df160_8 : decode cJ0_checkIndex_df160 8 = .ok (.pop, 1) := by decide +kernel
theorem dJ0_checkIndex_df160_9 : decode cJ0_checkIndex_df160 9 = .ok (.return_, 1) := by decide +kernel
set_option maxRecDepth 20000 in
theorem ggJ1_charAt_3b067_J0_checkIndex_df160 : GoodIn wsJ1_charAt_3b067 wsJ0_checkIndex_df160 := goodIn_r _ [4, 5, 6, 7, 8, 9] (by decide +kernel) (by decide +kernel)
set_option maxRecDepth 20000 in
theorem gJ1_charAt_3b067_J0_checkIndex_df160 : GoodIn wsJ1_charAt_3b067 (va_wsS RJ1 9 yJ0_checkIndex_df160 wsJ0_checkIndex_df160) := goodIn_app (goodIn_of _ (by decide +kernel)) ggJ1_charAt_3b067_J0_checkIndex_df160
theorem dJ1_charAt_3b067_0 : decode cJ1_charAt_3b067 0 = .ok (.iload_n 1, 1) := by decide +kernel
theorem dJ1_charAt_3b067_1 : decode cJ1_charAt_3b067 1 = .ok (.aload_n 0, 1) := by decide +kernel
theorem dJ1_charAt_3b067_2 : decode cJ1_charAt_3b067 2 = .ok (.arraylength, 1) := by decide +kernel
theorem dJ1_charAt_3b067_3 : decode cJ1_charAt_3b067 3 = .ok (.invokestatic 9, 3) := by decide +kernel
theorem dJ1_charAt_3b067_6 : decode cJ1_charAt_3b067 6 = .ok (.aload_n 0, 1) := by decide +kernel
theorem dJ1_charAt_3b067_7 : decode cJ1_charAt_3b067 7 = .ok (.iload_n 1, 1) := by decide +kernel
theorem dJ1_charAt_3b067_8 : decode cJ1_charAt_3b067 8 = .ok (.baload, 1) := by decide +kernel
theorem dJ1_charAt_3b067_9 : decode cJ1_charAt_3b067 9 = .ok (.sipush 255, 3) := by decide +kernel
theorem dJ1_charAt_3b067_12 : decode cJ1_charAt_3b067 12 = .ok (.iand, 1) := by decide +kernel
theorem dJ1_charAt_3b067_13 : decode cJ1_charAt_3b067 13 = .ok (.i2c, 1) := by decide +kernel
theorem dJ1_charAt_3b067_14 : decode cJ1_charAt_3b067 14 = .ok (.ireturn, 1) := by decide +kernel
set_option maxRecDepth 20000 in
theorem ggJ2_getChar_3b067_J2_length_9d52b : GoodIn wsJ2_getChar_3b067 wsJ2_length_9d52b := goodIn_r _ [7] (by decide +kernel) (by decide +kernel)
set_option maxRecDepth 20000 in
theorem gJ2_getChar_3b067_J2_length_9d52b : GoodIn wsJ2_getChar_3b067 (va_wsS RJ2 48 yJ2_length_9d52b wsJ2_length_9d52b) := goodIn_app (goodIn_of _ (by decide +kernel)) ggJ2_getChar_3b067_J2_length_9d52b
theorem dJ2_getChar_3b067_0 : decode cJ2_getChar_3b067 0 = .ok (.getstatic 44, 3) := by decide +kernel
theorem dJ2_getChar_3b067_3 : decode cJ2_getChar_3b067 3 = .ok (.ifCond .ne 25, 3) := by decide +kernel
theorem dJ2_getChar_3b067_6 : decode cJ2_getChar_3b067 6 = .ok (.iload_n 1, 1) := by decide +kernel
theorem dJ2_getChar_3b067_7 : decode cJ2_getChar_3b067 7 = .ok (.ifCond .lt 11, 3) := by decide +kernel
theorem dJ2_getChar_3b067_10 : decode cJ2_getChar_3b067 10 = .ok (.iload_n 1, 1) := by decide +kernel
theorem dJ2_getChar_3b067_11 : decode cJ2_getChar_3b067 11 = .ok (.aload_n 0, 1) := by decide +kernel
theorem dJ2_getChar_3b067_12 : decode cJ2_getChar_3b067 12 = .ok (.invokestatic 48, 3) := by decide +kernel
theorem dJ2_getChar_3b067_15 : decode cJ2_getChar_3b067 15 = .ok (.if_icmp .lt 13, 3) := by decide +kernel
theorem dJ2_getChar_3b067_18 : decode cJ2_getChar_3b067 18 = .ok (.new 52, 3) := by decide +kernel
theorem dJ2_getChar_3b067_21 : decode cJ2_getChar_3b067 21 = .ok (.dup, 1) := by decide +kernel
theorem dJ2_getChar_3b067_22 : decode cJ2_getChar_3b067 22 = .ok (.ldc 54, 2) := by decide +kernel
theorem dJ2_getChar_3b067_24 : decode cJ2_getChar_3b067 24 = .ok (.invokespecial 56, 3) := by decide +kernel
theorem dJ2_getChar_3b067_27 : decode cJ2_getChar_3b067 27 = .ok (.athrow, 1) := by decide +kernel
theorem dJ2_getChar_3b067_28 : decode cJ2_getChar_3b067 28 = .ok (.iload_n 1, 1) := by decide +kernel
theorem dJ2_getChar_3b067_29 : decode cJ2_getChar_3b067 29 = .ok (.iconst 1, 1) := by decide +kernel
theorem dJ2_getChar_3b067_30 : decode cJ2_getChar_3b067 30 = .ok (.ishl, 1) := by decide +kernel
theorem dJ2_getChar_3b067_31 : decode cJ2_getChar_3b067 31 = .ok (.istore_n 1, 1) := by decide +kernel
theorem dJ2_getChar_3b067_32 : decode cJ2_getChar_3b067 32 = .ok (.aload_n 0, 1) := by decide +kernel
theorem dJ2_getChar_3b067_33 : decode cJ2_getChar_3b067 33 = .ok (.iload_n 1, 1) := by decide +kernel
theorem dJ2_getChar_3b067_34 : decode cJ2_getChar_3b067 34 = .ok (.iinc 1 1, 3) := by decide +kernel
theorem dJ2_getChar_3b067_37 : decode cJ2_getChar_3b067 37 = .ok (.baload, 1) := by decide +kernel
theorem dJ2_getChar_3b067_38 : decode cJ2_getChar_3b067 38 = .ok (.sipush 255, 3) := by decide +kernel
theorem dJ2_getChar_3b067_41 : decode cJ2_getChar_3b067 41 = .ok (.iand, 1) := by decide +kernel
theorem dJ2_getChar_3b067_42 : decode cJ2_getChar_3b067 42 = .ok (.getstatic 59, 3) := by decide +kernel
theorem dJ2_getChar_3b067_45 : decode cJ2_getChar_3b067 45 = .ok (.ishl, 1) := by decide +kernel
theorem dJ2_getChar_3b067_46 : decode cJ2_getChar_3b067 46 = .ok (.aload_n 0, 1) := by decide +kernel
theorem dJ2_getChar_3b067_47 : decode cJ2_getChar_3b067 47 = .ok (.iload_n 1, 1) := by decide +kernel
theorem dJ2_getChar_3b067_48 : decode cJ2_getChar_3b067 48 = .ok (.baload, 1) := by decide +kernel
theorem dJ2_getChar_3b067_49 : decode cJ2_getChar_3b067 49 = .ok (.sipush 255, 3) := by decide +kernel
theorem dJ2_getChar_3b067_52 : decode cJ2_getChar_3b067 52 = .ok (.iand, 1) := by decide +kernel
theorem dJ2_getChar_3b067_53 : decode cJ2_getChar_3b067 53 = .ok (.getstatic 63, 3) := by decide +kernel
theorem dJ2_getChar_3b067_56 : decode cJ2_getChar_3b067 56 = .ok (.ishl, 1) := by decide +kernel
theorem dJ2_getChar_3b067_57 : decode cJ2_getChar_3b067 57 = .ok (.ior, 1) := by decide +kernel
theorem dJ2_getChar_3b067_58 : decode cJ2_getChar_3b067 58 = .ok (.i2c, 1) := by decide +kernel
theorem dJ2_getChar_3b067_59 : decode cJ2_getChar_3b067 59 = .ok (.ireturn, 1) := by decide +kernel
theorem dJ2_length_9d52b_0 : decode cJ2_length_9d52b 0 = .ok (.aload_n 0, 1) := by decide +kernel
theorem dJ2_length_9d52b_1 : decode cJ2_length_9d52b 1 = .ok (.arraylength, 1) := by decide +kernel
theorem dJ2_length_9d52b_2 : decode cJ2_length_9d52b 2 = .ok (.iconst 1, 1) := by decide +kernel
theorem dJ2_length_9d52b_3 : decode cJ2_length_9d52b 3 = .ok (.ishr, 1) := by decide +kernel
theorem dJ2_length_9d52b_4 : decode cJ2_length_9d52b 4 = .ok (.ireturn, 1) := by decide +kernel
set_option maxRecDepth 20000 in
theorem ggJ2_charAt_3b067_J2_checkIndex_2214a : GoodIn wsJ2_charAt_3b067 wsJ2_checkIndex_2214a := goodIn_r _ [4, 5, 6, 3, 7, 8, 9, 10, 11, 12, 13, 14, 15, 16] (by decide +kernel) (by decide +kernel)
set_option maxRecDepth 20000 in
theorem gJ2_charAt_3b067_J2_checkIndex_2214a : GoodIn wsJ2_charAt_3b067 (va_wsS RJ2 67 yJ2_checkIndex_2214a wsJ2_checkIndex_2214a) := goodIn_app (goodIn_of _ (by decide +kernel)) ggJ2_charAt_3b067_J2_checkIndex_2214a
set_option maxRecDepth 20000 in
theorem ggJ2_charAt_3b067_J2_getChar_3b067 : GoodIn wsJ2_charAt_3b067 wsJ2_getChar_3b067 := goodIn_r _ [19, 20, 21, 22, 5, 6, 3, 7] (by decide +kernel) (by decide +kernel)
set_option maxRecDepth 20000 in
theorem gJ2_charAt_3b067_J2_getChar_3b067 : GoodIn wsJ2_charAt_3b067 (va_wsS RJ2 71 yJ2_getChar_3b067 wsJ2_getChar_3b067) := goodIn_app (goodIn_of _ (by decide +kernel)) ggJ2_charAt_3b067_J2_getChar_3b067
theorem dJ2_charAt_3b067_0 : decode cJ2_charAt_3b067 0 = .ok (.iload_n 1, 1) := by decide +kernel
theorem dJ2_charAt_3b067_1 : decode cJ2_charAt_3b067 1 = .ok (.aload_n 0, 1) := by decide +kernel
theorem dJ2_charAt_3b067_2 : decode cJ2_charAt_3b067 2 = .ok (.invokestatic 67, 3) := by decide +kernel
theorem dJ2_charAt_3b067_5 : decode cJ2_charAt_3b067 5 = .ok (.aload_n 0, 1) := by decide +kernel
theorem dJ2_charAt_3b067_6 : decode cJ2_charAt_3b067 6 = .ok (.iload_n 1, 1) := by decide +kernel
theorem dJ2_charAt_3b067_7 : decode cJ2_charAt_3b067 7 = .ok (.invokestatic 71, 3) := by decide +kernel
theorem dJ2_charAt_3b067_10 : decode cJ2_charAt_3b067 10 = .ok (.ireturn, 1) := by decide +kernel
set_option maxRecDepth 20000 in
theorem ggJ2_checkIndex_2214a_J2_length_9d52b : GoodIn wsJ2_checkIndex_2214a wsJ2_length_9d52b := goodIn_r _ [4] (by decide +kernel) (by decide +kernel)
set_option maxRecDepth 20000 in
theorem gJ2_checkIndex_2214a_J2_length_9d52b : GoodIn wsJ2_checkIndex_2214a (va_wsS RJ2 48 yJ2_length_9d52b wsJ2_length_9d52b) := goodIn_app (goodIn_of _ (by decide +kernel)) ggJ2_checkIndex_2214a_J2_length_9d52b
set_option maxRecDepth 20000 in
theorem ggJ2_checkIndex_2214a_J0_checkIndex_df160 : GoodIn wsJ2_checkIndex_2214a wsJ0_checkIndex_df160 := goodIn_r _ [8, 9, 10, 11, 12, 13] (by decide +kernel) (by decide +kernel)
set_option maxRecDepth 20000 in
theorem gJ2_checkIndex_2214a_J0_checkIndex_df160 : GoodIn wsJ2_checkIndex_2214a (va_wsS RJ2 414 yJ0_checkIndex_df160 wsJ0_checkIndex_df160) := goodIn_app (goodIn_of _ (by decide +kernel)) ggJ2_checkIndex_2214a_J0_checkIndex_df160
theorem dJ2_checkIndex_2214a_0 : decode cJ2_checkIndex_2214a 0 = .ok (.iload_n 0, 1) := by decide +kernel
theorem dJ2_checkIndex_2214a_1 : decode cJ2_checkIndex_2214a 1 = .ok (.aload_n 1, 1) := by decide +kernel
theorem dJ2_checkIndex_2214a_2 : decode cJ2_checkIndex_2214a 2 = .ok (.invokestatic 48, 3) := by decide +kernel
theorem dJ2_checkIndex_2214a_5 : decode cJ2_checkIndex_2214a 5 = .ok (.invokestatic 414, 3) := by decide +kernel
theorem dJ2_checkIndex_2214a_8 : decode cJ2_checkIndex_2214a 8 = .ok (.return_, 1) := by decide +kernel
theorem dJ3_checkIndex_8e157_0 : decode cJ3_checkIndex_8e157 0 = .ok (.iload_n 0, 1) := by decide +kernel
theorem dJ3_checkIndex_8e157_1 : decode cJ3_checkIndex_8e157 1 = .ok (.ifCond .lt 8, 3) := by decide +kernel
theorem dJ3_checkIndex_8e157_4 : decode cJ3_checkIndex_8e157 4 = .ok (.iload_n 0, 1) := by decide +kernel
theorem dJ3_checkIndex_8e157_5 : decode cJ3_checkIndex_8e157 5 = .ok (.iload_n 1, 1) := by decide +kernel
theorem dJ3_checkIndex_8e157_6 : decode cJ3_checkIndex_8e157 6 = .ok (.if_icmp .lt 10, 3) := by decide +kernel
theorem dJ3_checkIndex_8e157_9 : decode cJ3_checkIndex_8e157 9 = .ok (.aload_n 2, 1) := by decide +kernel
theorem dJ3_checkIndex_8e157_10 : decode cJ3_checkIndex_8e157 10 = .ok (.iload_n 0, 1) := by decide +kernel
theorem dJ3_checkIndex_8e157_11 : decode cJ3_checkIndex_8e157 11 = .ok (.iload_n 1, 1) := by decide +kernel
theorem dJ3_checkIndex_8e157_12 : decode cJ3_checkIndex_8e157 12 = .ok (.invokestatic 95, 3) := by decide +kernel
theorem dJ3_checkIndex_8e157_15 : decode cJ3_checkIndex_8e157 15 = .ok (.athrow, 1) := by decide +kernel
theorem dJ3_checkIndex_8e157_16 : decode cJ3_checkIndex_8e157 16 = .ok (.iload_n 0, 1) := by decide +kernel
theorem dJ3_checkIndex_8e157_17 : decode cJ3_checkIndex_8e157 17 = .ok (.ireturn, 1) := by decide +kernel
abbrev vwCl : List vw_C := [(RX0, TX0, 5), (RX1, TX1, 9), (RX2, TX2, 8), (RX3, TX3, 7), (RX4, TX4, 6), (RX5, TX5, 2), (RX6, TX6, 6), (RX7, TX7, 6), (RX8, TX8, 4), (RX9, TX9, 17)]
