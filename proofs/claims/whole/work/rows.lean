section
-- ===== PART A: goes FIRST, ahead of the names: the tables' words, and 'selects' of the private methods out of them =====
/-- a private method of a class that the tables say can be made, by its rows of tables_1 -/
def lw_okq (q : MethodName × Nat) : Prop := (q.1.cls ≠ "java/lang/invoke/MethodHandle" ∧ q.1.cls ≠ "java/lang/invoke/VarHandle") ∧ Cond.instantiable q.1.cls q.2 ∈ tables_1 ∧ Cond.privateMethod q.1 ∈ tables_1 ∧ Cond.instanceMethod q.1 ∈ tables_1
theorem lw_p0 : lw_okq (⟨"HonestHouse", "isWish", "(I)Z"⟩, 9) := ⟨⟨by decide +kernel, by decide +kernel⟩, List.mem_of_getElem? (i := 22) (by decide +kernel), List.mem_of_getElem? (i := 237) (by decide +kernel), List.mem_of_getElem? (i := 238) (by decide +kernel)⟩
theorem lw_p1 : lw_okq (⟨"HonestHouse", "isEnd", "(I)Z"⟩, 9) := ⟨⟨by decide +kernel, by decide +kernel⟩, List.mem_of_getElem? (i := 22) (by decide +kernel), List.mem_of_getElem? (i := 241) (by decide +kernel), List.mem_of_getElem? (i := 242) (by decide +kernel)⟩
theorem lw_p2 : lw_okq (⟨"HonestHouse", "add", "(LHonestHouse$Table;)I"⟩, 9) := ⟨⟨by decide +kernel, by decide +kernel⟩, List.mem_of_getElem? (i := 22) (by decide +kernel), List.mem_of_getElem? (i := 344) (by decide +kernel), List.mem_of_getElem? (i := 345) (by decide +kernel)⟩
theorem lw_p3 : lw_okq (⟨"HonestHouse", "ruleAt", "(I)LHonestHouse$Table;"⟩, 9) := ⟨⟨by decide +kernel, by decide +kernel⟩, List.mem_of_getElem? (i := 22) (by decide +kernel), List.mem_of_getElem? (i := 352) (by decide +kernel), List.mem_of_getElem? (i := 353) (by decide +kernel)⟩
theorem lw_p4 : lw_okq (⟨"HonestHouse", "isRow", "(I)Z"⟩, 9) := ⟨⟨by decide +kernel, by decide +kernel⟩, List.mem_of_getElem? (i := 22) (by decide +kernel), List.mem_of_getElem? (i := 356) (by decide +kernel), List.mem_of_getElem? (i := 357) (by decide +kernel)⟩
theorem lw_p5 : lw_okq (⟨"HonestHouse", "isPerson", "(I)Z"⟩, 9) := ⟨⟨by decide +kernel, by decide +kernel⟩, List.mem_of_getElem? (i := 22) (by decide +kernel), List.mem_of_getElem? (i := 376) (by decide +kernel), List.mem_of_getElem? (i := 377) (by decide +kernel)⟩
theorem lw_p6 : lw_okq (⟨"HonestHouse", "settledRule", "(I)LHonestHouse$Table;"⟩, 9) := ⟨⟨by decide +kernel, by decide +kernel⟩, List.mem_of_getElem? (i := 22) (by decide +kernel), List.mem_of_getElem? (i := 501) (by decide +kernel), List.mem_of_getElem? (i := 502) (by decide +kernel)⟩
theorem lw_p7 : lw_okq (⟨"HonestHouse", "firstLie", "(LHonestHouse$Table;I)I"⟩, 9) := ⟨⟨by decide +kernel, by decide +kernel⟩, List.mem_of_getElem? (i := 22) (by decide +kernel), List.mem_of_getElem? (i := 505) (by decide +kernel), List.mem_of_getElem? (i := 506) (by decide +kernel)⟩
theorem lw_p8 : lw_okq (⟨"HonestHouse", "liesAt", "(LHonestHouse$Table;II)I"⟩, 9) := ⟨⟨by decide +kernel, by decide +kernel⟩, List.mem_of_getElem? (i := 22) (by decide +kernel), List.mem_of_getElem? (i := 537) (by decide +kernel), List.mem_of_getElem? (i := 538) (by decide +kernel)⟩
theorem lw_p9 : lw_okq (⟨"HonestHouse", "isDictator", "(LHonestHouse$Table;I)Z"⟩, 9) := ⟨⟨by decide +kernel, by decide +kernel⟩, List.mem_of_getElem? (i := 22) (by decide +kernel), List.mem_of_getElem? (i := 619) (by decide +kernel), List.mem_of_getElem? (i := 620) (by decide +kernel)⟩
theorem lw_p10 : lw_okq (⟨"HonestHouse", "firstRound", "(LHonestHouse$Table;I)I"⟩, 9) := ⟨⟨by decide +kernel, by decide +kernel⟩, List.mem_of_getElem? (i := 22) (by decide +kernel), List.mem_of_getElem? (i := 628) (by decide +kernel), List.mem_of_getElem? (i := 629) (by decide +kernel)⟩
theorem lw_p11 : lw_okq (⟨"HonestHouse", "isRoundAt", "(LHonestHouse$Table;II)Z"⟩, 9) := ⟨⟨by decide +kernel, by decide +kernel⟩, List.mem_of_getElem? (i := 22) (by decide +kernel), List.mem_of_getElem? (i := 632) (by decide +kernel), List.mem_of_getElem? (i := 633) (by decide +kernel)⟩
theorem lw_p12 : lw_okq (⟨"HonestHouse", "partOfRound", "(III)I"⟩, 9) := ⟨⟨by decide +kernel, by decide +kernel⟩, List.mem_of_getElem? (i := 22) (by decide +kernel), List.mem_of_getElem? (i := 668) (by decide +kernel), List.mem_of_getElem? (i := 669) (by decide +kernel)⟩
theorem lw_p13 : lw_okq (⟨"HonestHouse", "pricedRule", "(LHonestHouse$Table;)LHonestHouse$Table;"⟩, 9) := ⟨⟨by decide +kernel, by decide +kernel⟩, List.mem_of_getElem? (i := 22) (by decide +kernel), List.mem_of_getElem? (i := 689) (by decide +kernel), List.mem_of_getElem? (i := 690) (by decide +kernel)⟩
theorem lw_p14 : lw_okq (⟨"HonestHouse", "payPrices", "(LHonestHouse$Paid;II)V"⟩, 9) := ⟨⟨by decide +kernel, by decide +kernel⟩, List.mem_of_getElem? (i := 22) (by decide +kernel), List.mem_of_getElem? (i := 698) (by decide +kernel), List.mem_of_getElem? (i := 699) (by decide +kernel)⟩
theorem lw_p15 : lw_okq (⟨"HonestHouse", "isSameAt", "(LHonestHouse$Table;LHonestHouse$Table;I)Z"⟩, 9) := ⟨⟨by decide +kernel, by decide +kernel⟩, List.mem_of_getElem? (i := 22) (by decide +kernel), List.mem_of_getElem? (i := 717) (by decide +kernel), List.mem_of_getElem? (i := 718) (by decide +kernel)⟩
def lw_privs_1 : List (MethodName × Nat) := [(⟨"HonestHouse", "isWish", "(I)Z"⟩, 9), (⟨"HonestHouse", "isEnd", "(I)Z"⟩, 9), (⟨"HonestHouse", "add", "(LHonestHouse$Table;)I"⟩, 9), (⟨"HonestHouse", "ruleAt", "(I)LHonestHouse$Table;"⟩, 9), (⟨"HonestHouse", "isRow", "(I)Z"⟩, 9), (⟨"HonestHouse", "isPerson", "(I)Z"⟩, 9), (⟨"HonestHouse", "settledRule", "(I)LHonestHouse$Table;"⟩, 9), (⟨"HonestHouse", "firstLie", "(LHonestHouse$Table;I)I"⟩, 9), (⟨"HonestHouse", "liesAt", "(LHonestHouse$Table;II)I"⟩, 9), (⟨"HonestHouse", "isDictator", "(LHonestHouse$Table;I)Z"⟩, 9), (⟨"HonestHouse", "firstRound", "(LHonestHouse$Table;I)I"⟩, 9), (⟨"HonestHouse", "isRoundAt", "(LHonestHouse$Table;II)Z"⟩, 9), (⟨"HonestHouse", "partOfRound", "(III)I"⟩, 9), (⟨"HonestHouse", "pricedRule", "(LHonestHouse$Table;)LHonestHouse$Table;"⟩, 9), (⟨"HonestHouse", "payPrices", "(LHonestHouse$Paid;II)V"⟩, 9), (⟨"HonestHouse", "isSameAt", "(LHonestHouse$Table;LHonestHouse$Table;I)Z"⟩, 9)]
theorem lw_r1 : ∀ q ∈ lw_privs_1, lw_okq q := List.forall_mem_cons.mpr ⟨lw_p0, List.forall_mem_cons.mpr ⟨lw_p1, List.forall_mem_cons.mpr ⟨lw_p2, List.forall_mem_cons.mpr ⟨lw_p3, List.forall_mem_cons.mpr ⟨lw_p4, List.forall_mem_cons.mpr ⟨lw_p5, List.forall_mem_cons.mpr ⟨lw_p6, List.forall_mem_cons.mpr ⟨lw_p7, List.forall_mem_cons.mpr ⟨lw_p8, List.forall_mem_cons.mpr ⟨lw_p9, List.forall_mem_cons.mpr ⟨lw_p10, List.forall_mem_cons.mpr ⟨lw_p11, List.forall_mem_cons.mpr ⟨lw_p12, List.forall_mem_cons.mpr ⟨lw_p13, List.forall_mem_cons.mpr ⟨lw_p14, List.forall_mem_cons.mpr ⟨lw_p15, fun _ h => absurd h List.not_mem_nil⟩⟩⟩⟩⟩⟩⟩⟩⟩⟩⟩⟩⟩⟩⟩⟩
theorem lw_p16 : lw_okq (⟨"HonestHouse", "isFairAt", "(LHonestHouse$Table;I)Z"⟩, 9) := ⟨⟨by decide +kernel, by decide +kernel⟩, List.mem_of_getElem? (i := 22) (by decide +kernel), List.mem_of_getElem? (i := 726) (by decide +kernel), List.mem_of_getElem? (i := 727) (by decide +kernel)⟩
theorem lw_p17 : lw_okq (⟨"HonestHouse", "shelfAt", "(I)LHonestHouse$Shelf;"⟩, 9) := ⟨⟨by decide +kernel, by decide +kernel⟩, List.mem_of_getElem? (i := 22) (by decide +kernel), List.mem_of_getElem? (i := 854) (by decide +kernel), List.mem_of_getElem? (i := 855) (by decide +kernel)⟩
theorem lw_p18 : lw_okq (⟨"HonestHouse", "keepRule", "(LHonestHouse$Shelf;I)I"⟩, 9) := ⟨⟨by decide +kernel, by decide +kernel⟩, List.mem_of_getElem? (i := 22) (by decide +kernel), List.mem_of_getElem? (i := 862) (by decide +kernel), List.mem_of_getElem? (i := 863) (by decide +kernel)⟩
theorem lw_p19 : lw_okq (⟨"HonestHouse", "keepEnds", "(LHonestHouse$Shelf;I)I"⟩, 9) := ⟨⟨by decide +kernel, by decide +kernel⟩, List.mem_of_getElem? (i := 22) (by decide +kernel), List.mem_of_getElem? (i := 887) (by decide +kernel), List.mem_of_getElem? (i := 888) (by decide +kernel)⟩
theorem lw_p20 : lw_okq (⟨"HonestHouse", "keepNumbers", "(LHonestHouse$Shelf;I)I"⟩, 9) := ⟨⟨by decide +kernel, by decide +kernel⟩, List.mem_of_getElem? (i := 22) (by decide +kernel), List.mem_of_getElem? (i := 899) (by decide +kernel), List.mem_of_getElem? (i := 900) (by decide +kernel)⟩
theorem lw_p21 : lw_okq (⟨"java/lang/Throwable", "fillInStackTrace", "(I)Ljava/lang/Throwable;"⟩, 6) := ⟨⟨by decide +kernel, by decide +kernel⟩, List.mem_of_getElem? (i := 980) (by decide +kernel), List.mem_of_getElem? (i := 978) (by decide +kernel), List.mem_of_getElem? (i := 979) (by decide +kernel)⟩
theorem lw_p22 : lw_okq (⟨"HonestHouse", "paidByAll", "(LHonestHouse$Table;I)I"⟩, 9) := ⟨⟨by decide +kernel, by decide +kernel⟩, List.mem_of_getElem? (i := 22) (by decide +kernel), List.mem_of_getElem? (i := 1061) (by decide +kernel), List.mem_of_getElem? (i := 1062) (by decide +kernel)⟩
theorem lw_p23 : lw_okq (⟨"HonestHouse", "settleFor", "(LHonestHouse$Table;II)V"⟩, 9) := ⟨⟨by decide +kernel, by decide +kernel⟩, List.mem_of_getElem? (i := 22) (by decide +kernel), List.mem_of_getElem? (i := 1082) (by decide +kernel), List.mem_of_getElem? (i := 1083) (by decide +kernel)⟩
theorem lw_p24 : lw_okq (⟨"HonestHouseModel", "counts", "()V"⟩, 32) := ⟨⟨by decide +kernel, by decide +kernel⟩, List.mem_of_getElem? (i := 1106) (by decide +kernel), List.mem_of_getElem? (i := 1114) (by decide +kernel), List.mem_of_getElem? (i := 1115) (by decide +kernel)⟩
theorem lw_p25 : lw_okq (⟨"HonestHouseModel", "isRow", "(II)Z"⟩, 32) := ⟨⟨by decide +kernel, by decide +kernel⟩, List.mem_of_getElem? (i := 1106) (by decide +kernel), List.mem_of_getElem? (i := 1238) (by decide +kernel), List.mem_of_getElem? (i := 1239) (by decide +kernel)⟩
theorem lw_p26 : lw_okq (⟨"HonestHouseModel", "ends", "(II)I"⟩, 32) := ⟨⟨by decide +kernel, by decide +kernel⟩, List.mem_of_getElem? (i := 1106) (by decide +kernel), List.mem_of_getElem? (i := 1258) (by decide +kernel), List.mem_of_getElem? (i := 1259) (by decide +kernel)⟩
theorem lw_p27 : lw_okq (⟨"HonestHouseModel", "greatest", "(III)I"⟩, 32) := ⟨⟨by decide +kernel, by decide +kernel⟩, List.mem_of_getElem? (i := 1106) (by decide +kernel), List.mem_of_getElem? (i := 1262) (by decide +kernel), List.mem_of_getElem? (i := 1263) (by decide +kernel)⟩
theorem lw_p28 : lw_okq (⟨"HonestHouseModel", "sumOf", "(IIII)I"⟩, 32) := ⟨⟨by decide +kernel, by decide +kernel⟩, List.mem_of_getElem? (i := 1106) (by decide +kernel), List.mem_of_getElem? (i := 1266) (by decide +kernel), List.mem_of_getElem? (i := 1267) (by decide +kernel)⟩
theorem lw_p29 : lw_okq (⟨"HonestHouseModel", "wishOf", "(II)I"⟩, 32) := ⟨⟨by decide +kernel, by decide +kernel⟩, List.mem_of_getElem? (i := 1106) (by decide +kernel), List.mem_of_getElem? (i := 1270) (by decide +kernel), List.mem_of_getElem? (i := 1271) (by decide +kernel)⟩
theorem lw_p30 : lw_okq (⟨"HonestHouseModel", "middleOf", "(II)I"⟩, 32) := ⟨⟨by decide +kernel, by decide +kernel⟩, List.mem_of_getElem? (i := 1106) (by decide +kernel), List.mem_of_getElem? (i := 1274) (by decide +kernel), List.mem_of_getElem? (i := 1275) (by decide +kernel)⟩
theorem lw_p31 : lw_okq (⟨"HonestHouseModel", "top", "(I)I"⟩, 32) := ⟨⟨by decide +kernel, by decide +kernel⟩, List.mem_of_getElem? (i := 1106) (by decide +kernel), List.mem_of_getElem? (i := 1278) (by decide +kernel), List.mem_of_getElem? (i := 1279) (by decide +kernel)⟩
def lw_privs_2 : List (MethodName × Nat) := [(⟨"HonestHouse", "isFairAt", "(LHonestHouse$Table;I)Z"⟩, 9), (⟨"HonestHouse", "shelfAt", "(I)LHonestHouse$Shelf;"⟩, 9), (⟨"HonestHouse", "keepRule", "(LHonestHouse$Shelf;I)I"⟩, 9), (⟨"HonestHouse", "keepEnds", "(LHonestHouse$Shelf;I)I"⟩, 9), (⟨"HonestHouse", "keepNumbers", "(LHonestHouse$Shelf;I)I"⟩, 9), (⟨"java/lang/Throwable", "fillInStackTrace", "(I)Ljava/lang/Throwable;"⟩, 6), (⟨"HonestHouse", "paidByAll", "(LHonestHouse$Table;I)I"⟩, 9), (⟨"HonestHouse", "settleFor", "(LHonestHouse$Table;II)V"⟩, 9), (⟨"HonestHouseModel", "counts", "()V"⟩, 32), (⟨"HonestHouseModel", "isRow", "(II)Z"⟩, 32), (⟨"HonestHouseModel", "ends", "(II)I"⟩, 32), (⟨"HonestHouseModel", "greatest", "(III)I"⟩, 32), (⟨"HonestHouseModel", "sumOf", "(IIII)I"⟩, 32), (⟨"HonestHouseModel", "wishOf", "(II)I"⟩, 32), (⟨"HonestHouseModel", "middleOf", "(II)I"⟩, 32), (⟨"HonestHouseModel", "top", "(I)I"⟩, 32)]
theorem lw_r2 : ∀ q ∈ lw_privs_2, lw_okq q := List.forall_mem_cons.mpr ⟨lw_p16, List.forall_mem_cons.mpr ⟨lw_p17, List.forall_mem_cons.mpr ⟨lw_p18, List.forall_mem_cons.mpr ⟨lw_p19, List.forall_mem_cons.mpr ⟨lw_p20, List.forall_mem_cons.mpr ⟨lw_p21, List.forall_mem_cons.mpr ⟨lw_p22, List.forall_mem_cons.mpr ⟨lw_p23, List.forall_mem_cons.mpr ⟨lw_p24, List.forall_mem_cons.mpr ⟨lw_p25, List.forall_mem_cons.mpr ⟨lw_p26, List.forall_mem_cons.mpr ⟨lw_p27, List.forall_mem_cons.mpr ⟨lw_p28, List.forall_mem_cons.mpr ⟨lw_p29, List.forall_mem_cons.mpr ⟨lw_p30, List.forall_mem_cons.mpr ⟨lw_p31, fun _ h => absurd h List.not_mem_nil⟩⟩⟩⟩⟩⟩⟩⟩⟩⟩⟩⟩⟩⟩⟩⟩
theorem lw_p32 : lw_okq (⟨"HonestHouseModel", "raises", "(I)I"⟩, 32) := ⟨⟨by decide +kernel, by decide +kernel⟩, List.mem_of_getElem? (i := 1106) (by decide +kernel), List.mem_of_getElem? (i := 1286) (by decide +kernel), List.mem_of_getElem? (i := 1287) (by decide +kernel)⟩
theorem lw_p33 : lw_okq (⟨"HonestHouseModel", "paysOf", "(III)I"⟩, 32) := ⟨⟨by decide +kernel, by decide +kernel⟩, List.mem_of_getElem? (i := 1106) (by decide +kernel), List.mem_of_getElem? (i := 1290) (by decide +kernel), List.mem_of_getElem? (i := 1291) (by decide +kernel)⟩
theorem lw_p34 : lw_okq (⟨"HonestHouseModel", "saying", "(III)I"⟩, 32) := ⟨⟨by decide +kernel, by decide +kernel⟩, List.mem_of_getElem? (i := 1106) (by decide +kernel), List.mem_of_getElem? (i := 1298) (by decide +kernel), List.mem_of_getElem? (i := 1299) (by decide +kernel)⟩
theorem lw_p35 : lw_okq (⟨"HonestHouseModel", "gainOf", "(IIII)I"⟩, 32) := ⟨⟨by decide +kernel, by decide +kernel⟩, List.mem_of_getElem? (i := 1106) (by decide +kernel), List.mem_of_getElem? (i := 1306) (by decide +kernel), List.mem_of_getElem? (i := 1307) (by decide +kernel)⟩
theorem lw_p36 : lw_okq (⟨"HonestHouseModel", "worthOf", "(IIII)I"⟩, 32) := ⟨⟨by decide +kernel, by decide +kernel⟩, List.mem_of_getElem? (i := 1106) (by decide +kernel), List.mem_of_getElem? (i := 1310) (by decide +kernel), List.mem_of_getElem? (i := 1311) (by decide +kernel)⟩
theorem lw_p37 : lw_okq (⟨"HonestHouseModel", "reckon", "(I)V"⟩, 32) := ⟨⟨by decide +kernel, by decide +kernel⟩, List.mem_of_getElem? (i := 1106) (by decide +kernel), List.mem_of_getElem? (i := 1326) (by decide +kernel), List.mem_of_getElem? (i := 1327) (by decide +kernel)⟩
theorem lw_p38 : lw_okq (⟨"HonestHouseModel", "gains", "(III)Z"⟩, 32) := ⟨⟨by decide +kernel, by decide +kernel⟩, List.mem_of_getElem? (i := 1106) (by decide +kernel), List.mem_of_getElem? (i := 1330) (by decide +kernel), List.mem_of_getElem? (i := 1331) (by decide +kernel)⟩
theorem lw_p39 : lw_okq (⟨"HonestHouseModel", "measure", "(III)V"⟩, 32) := ⟨⟨by decide +kernel, by decide +kernel⟩, List.mem_of_getElem? (i := 1106) (by decide +kernel), List.mem_of_getElem? (i := 1354) (by decide +kernel), List.mem_of_getElem? (i := 1355) (by decide +kernel)⟩
theorem lw_p40 : lw_okq (⟨"HonestHouseModel", "least", "()I"⟩, 32) := ⟨⟨by decide +kernel, by decide +kernel⟩, List.mem_of_getElem? (i := 1106) (by decide +kernel), List.mem_of_getElem? (i := 1364) (by decide +kernel), List.mem_of_getElem? (i := 1365) (by decide +kernel)⟩
theorem lw_p41 : lw_okq (⟨"HonestHouseModel", "leastRound", "(IIII)I"⟩, 32) := ⟨⟨by decide +kernel, by decide +kernel⟩, List.mem_of_getElem? (i := 1106) (by decide +kernel), List.mem_of_getElem? (i := 1368) (by decide +kernel), List.mem_of_getElem? (i := 1369) (by decide +kernel)⟩
theorem lw_p42 : lw_okq (⟨"HonestHouseModel", "priceAll", "()V"⟩, 32) := ⟨⟨by decide +kernel, by decide +kernel⟩, List.mem_of_getElem? (i := 1106) (by decide +kernel), List.mem_of_getElem? (i := 1376) (by decide +kernel), List.mem_of_getElem? (i := 1377) (by decide +kernel)⟩
theorem lw_p43 : lw_okq (⟨"HonestHouseModel", "digits", "(I[I)Z"⟩, 32) := ⟨⟨by decide +kernel, by decide +kernel⟩, List.mem_of_getElem? (i := 1106) (by decide +kernel), List.mem_of_getElem? (i := 1398) (by decide +kernel), List.mem_of_getElem? (i := 1399) (by decide +kernel)⟩
theorem lw_p44 : lw_okq (⟨"HonestHouseModel", "ring", "()V"⟩, 32) := ⟨⟨by decide +kernel, by decide +kernel⟩, List.mem_of_getElem? (i := 1106) (by decide +kernel), List.mem_of_getElem? (i := 1406) (by decide +kernel), List.mem_of_getElem? (i := 1407) (by decide +kernel)⟩
theorem lw_p45 : lw_okq (⟨"HonestHouseModel", "best", "(II)I"⟩, 32) := ⟨⟨by decide +kernel, by decide +kernel⟩, List.mem_of_getElem? (i := 1106) (by decide +kernel), List.mem_of_getElem? (i := 1410) (by decide +kernel), List.mem_of_getElem? (i := 1411) (by decide +kernel)⟩
theorem lw_p46 : lw_okq (⟨"HonestHouseModel", "code", "([I)I"⟩, 32) := ⟨⟨by decide +kernel, by decide +kernel⟩, List.mem_of_getElem? (i := 1106) (by decide +kernel), List.mem_of_getElem? (i := 1414) (by decide +kernel), List.mem_of_getElem? (i := 1415) (by decide +kernel)⟩
theorem lw_p47 : lw_okq (⟨"HonestHouseModel", "turn", "()V"⟩, 32) := ⟨⟨by decide +kernel, by decide +kernel⟩, List.mem_of_getElem? (i := 1106) (by decide +kernel), List.mem_of_getElem? (i := 1426) (by decide +kernel), List.mem_of_getElem? (i := 1427) (by decide +kernel)⟩
def lw_privs_3 : List (MethodName × Nat) := [(⟨"HonestHouseModel", "raises", "(I)I"⟩, 32), (⟨"HonestHouseModel", "paysOf", "(III)I"⟩, 32), (⟨"HonestHouseModel", "saying", "(III)I"⟩, 32), (⟨"HonestHouseModel", "gainOf", "(IIII)I"⟩, 32), (⟨"HonestHouseModel", "worthOf", "(IIII)I"⟩, 32), (⟨"HonestHouseModel", "reckon", "(I)V"⟩, 32), (⟨"HonestHouseModel", "gains", "(III)Z"⟩, 32), (⟨"HonestHouseModel", "measure", "(III)V"⟩, 32), (⟨"HonestHouseModel", "least", "()I"⟩, 32), (⟨"HonestHouseModel", "leastRound", "(IIII)I"⟩, 32), (⟨"HonestHouseModel", "priceAll", "()V"⟩, 32), (⟨"HonestHouseModel", "digits", "(I[I)Z"⟩, 32), (⟨"HonestHouseModel", "ring", "()V"⟩, 32), (⟨"HonestHouseModel", "best", "(II)I"⟩, 32), (⟨"HonestHouseModel", "code", "([I)I"⟩, 32), (⟨"HonestHouseModel", "turn", "()V"⟩, 32)]
theorem lw_r3 : ∀ q ∈ lw_privs_3, lw_okq q := List.forall_mem_cons.mpr ⟨lw_p32, List.forall_mem_cons.mpr ⟨lw_p33, List.forall_mem_cons.mpr ⟨lw_p34, List.forall_mem_cons.mpr ⟨lw_p35, List.forall_mem_cons.mpr ⟨lw_p36, List.forall_mem_cons.mpr ⟨lw_p37, List.forall_mem_cons.mpr ⟨lw_p38, List.forall_mem_cons.mpr ⟨lw_p39, List.forall_mem_cons.mpr ⟨lw_p40, List.forall_mem_cons.mpr ⟨lw_p41, List.forall_mem_cons.mpr ⟨lw_p42, List.forall_mem_cons.mpr ⟨lw_p43, List.forall_mem_cons.mpr ⟨lw_p44, List.forall_mem_cons.mpr ⟨lw_p45, List.forall_mem_cons.mpr ⟨lw_p46, List.forall_mem_cons.mpr ⟨lw_p47, fun _ h => absurd h List.not_mem_nil⟩⟩⟩⟩⟩⟩⟩⟩⟩⟩⟩⟩⟩⟩⟩⟩
theorem lw_p48 : lw_okq (⟨"HonestHouseModel", "blocking", "([I)I"⟩, 32) := ⟨⟨by decide +kernel, by decide +kernel⟩, List.mem_of_getElem? (i := 1106) (by decide +kernel), List.mem_of_getElem? (i := 1434) (by decide +kernel), List.mem_of_getElem? (i := 1435) (by decide +kernel)⟩
theorem lw_p49 : lw_okq (⟨"HonestHouseModel", "isBeaten", "(I[I)Z"⟩, 32) := ⟨⟨by decide +kernel, by decide +kernel⟩, List.mem_of_getElem? (i := 1106) (by decide +kernel), List.mem_of_getElem? (i := 1438) (by decide +kernel), List.mem_of_getElem? (i := 1439) (by decide +kernel)⟩
theorem lw_p50 : lw_okq (⟨"HonestHouseModel", "last", "()I"⟩, 32) := ⟨⟨by decide +kernel, by decide +kernel⟩, List.mem_of_getElem? (i := 1106) (by decide +kernel), List.mem_of_getElem? (i := 1442) (by decide +kernel), List.mem_of_getElem? (i := 1443) (by decide +kernel)⟩
theorem lw_p51 : lw_okq (⟨"HonestHouseModel", "isBetter", "(I[I[I)Z"⟩, 32) := ⟨⟨by decide +kernel, by decide +kernel⟩, List.mem_of_getElem? (i := 1106) (by decide +kernel), List.mem_of_getElem? (i := 1446) (by decide +kernel), List.mem_of_getElem? (i := 1447) (by decide +kernel)⟩
theorem lw_p52 : lw_okq (⟨"HonestHouseModel", "place", "(II)I"⟩, 32) := ⟨⟨by decide +kernel, by decide +kernel⟩, List.mem_of_getElem? (i := 1106) (by decide +kernel), List.mem_of_getElem? (i := 1450) (by decide +kernel), List.mem_of_getElem? (i := 1451) (by decide +kernel)⟩
theorem lw_p53 : lw_okq (⟨"HonestHouseModel", "wrongShelf", "(I)I"⟩, 32) := ⟨⟨by decide +kernel, by decide +kernel⟩, List.mem_of_getElem? (i := 1106) (by decide +kernel), List.mem_of_getElem? (i := 1494) (by decide +kernel), List.mem_of_getElem? (i := 1495) (by decide +kernel)⟩
def lw_privs_4 : List (MethodName × Nat) := [(⟨"HonestHouseModel", "blocking", "([I)I"⟩, 32), (⟨"HonestHouseModel", "isBeaten", "(I[I)Z"⟩, 32), (⟨"HonestHouseModel", "last", "()I"⟩, 32), (⟨"HonestHouseModel", "isBetter", "(I[I[I)Z"⟩, 32), (⟨"HonestHouseModel", "place", "(II)I"⟩, 32), (⟨"HonestHouseModel", "wrongShelf", "(I)I"⟩, 32)]
theorem lw_r4 : ∀ q ∈ lw_privs_4, lw_okq q := List.forall_mem_cons.mpr ⟨lw_p48, List.forall_mem_cons.mpr ⟨lw_p49, List.forall_mem_cons.mpr ⟨lw_p50, List.forall_mem_cons.mpr ⟨lw_p51, List.forall_mem_cons.mpr ⟨lw_p52, List.forall_mem_cons.mpr ⟨lw_p53, fun _ h => absurd h List.not_mem_nil⟩⟩⟩⟩⟩⟩
def lw_privs : List (MethodName × Nat) := lw_privs_1 ++ (lw_privs_2 ++ (lw_privs_3 ++ (lw_privs_4)))
def lw_tbl : List Cond := k2_sels lw_privs ++ tables_1
theorem lw_privs_ok : ∀ q ∈ lw_privs, lw_okq q := by
  show ∀ q ∈ lw_privs_1 ++ (lw_privs_2 ++ (lw_privs_3 ++ (lw_privs_4))), lw_okq q
  exact List.forall_mem_append.mpr ⟨lw_r1, List.forall_mem_append.mpr ⟨lw_r2, List.forall_mem_append.mpr ⟨lw_r3, lw_r4⟩⟩⟩
-- ===== end of PART A; then your names; then what follows =====
end
section
/-! ===== BEGIN words of one list among another's, by their places ===== -/
theorem goodIn_r {big : List Cond} (ws : List Cond) (ps : List Nat) (hp : ws = ps.filterMap (fun i => big[i]?)) (h : ws.all goodWord = true) : GoodIn big ws := by
  intro w hw
  have h1 := List.all_eq_true.mp h w hw
  rw [hp] at hw
  obtain ⟨i, -, hi⟩ := List.mem_filterMap.mp hw
  have hm : w ∈ big := by first | exact List.mem_of_getElem? hi | exact List.getElem?_mem hi
  exact ⟨hm, good_of_word h1⟩
theorem goodIn_app {big a b : List Cond} (ha : GoodIn big a) (hb : GoodIn big b) : GoodIn big (a ++ b) := fun w h => (List.mem_append.mp h).elim (ha w) (hb w)
theorem goodIn_ca {big a b : List Cond} {c : Cond} (ha : GoodIn big (c :: a)) (hb : GoodIn big b) : GoodIn big (c :: (a ++ b)) := fun w h => (List.mem_cons.mp h).elim (fun e => ha w (List.mem_cons.mpr (Or.inl e))) (fun h => (List.mem_append.mp h).elim (fun h => ha w (List.mem_cons.mpr (Or.inr h))) (hb w))
theorem goodIn_sub {big ws : List Cond} (hm : ∀ w ∈ ws, w ∈ big) (h : ws.all goodWord = true) : GoodIn big ws := fun w hw => ⟨hm w hw, good_of_word (List.all_eq_true.mp h w hw)⟩
/-! ===== END ===== -/

/-! ===== BEGIN exceptions that leave a method, and their catching by the caller (launches without stack traces) ===== -/
section VXA
/-! The laws vx_back, vx_callV, vx_callS, vx_callSW, vx_throw0, vx_throwS follow proofs of the library, with one case more: JvmDerived/Free/Laws.lean (Back.of_free), Shelf42/LK1.lean (callV, callS), Shelf/KitTraced.lean (throwNew0V, throwNewS). -/
/-- where a method has thrown q: the class by its name, the cell, what was written, the world -/
def vx_T (XC : String → State → State → Prop) (st : State) (q : Addr) (t : State) (mc ms : Nat) (free : Addr → Prop) : Prop :=
  ∃ (E : String) (ce : Cell) (L : List Loc), XC E st t ∧ t.heap[q]? = some ce ∧ ce.vm = .none ∧ st.vm.findClass E = some ce.cls ∧ st.WarmedH t.vm ∧ st.sameButNew ({ t with vm := st.vm } : State) L mc ms ∧ ∀ z ∈ L, free z.base
def vx_Q (Qc : Array Value → State → Outcome → State → Prop) (XC : String → State → State → Prop) (mc ms : Nat) (free : Addr → Prop) : Array Value → State → Outcome → State → Prop := fun a st o t =>
  (Qc a st o t ∧ ∃ L, FrameEnd st o t L mc ms ∧ ∀ q ∈ L, free q.base) ∨ ∃ q, o = .threw q ∧ vx_T XC st q t mc ms free
/-- a callee that returns or throws -/
def vx_Met (l : Launch) (y : MethodName) (ws : List Cond) (rm : Room) (Pc : Array Value → State → Prop) (Qc : Array Value → State → Outcome → State → Prop) (XC : String → State → State → Prop) (mc ms : Nat) (free : Addr → Prop) : Prop :=
  MetFree l y (headSpec ws rm) Pc (fun _ _ _ _ _ => True) (vx_Q Qc XC mc ms free)
def vx_Post (XC : String → State → State → Prop) (mc ms : Nat) (free : Addr → Prop) : Pt → Array Value → Addr → Pt → Prop := fun A a q B =>
  ∃ (g : JFrame) (mk : MethodId) (t : State) (L : List Loc) (E : String) (ce : Cell), B.U.heap = t.heap ∧ B.U.vm = t.vm ∧ XC E (A.U.calling g mk a) t ∧ t.heap[q]? = some ce ∧ ce.vm = .none ∧ A.U.vm.findClass E = some ce.cls ∧ B.locs = A.locs ++ L ∧ (∀ z ∈ L, free z.base) ∧ B.cells = A.cells + mc ∧ B.slots = A.slots + ms
def vx_Back (l : Launch) (R : Room) (p : Program) (e : Env) (below : List Frame) (s : State) (sargs : Array Value) (y : MethodName) (len W9 : Nat)
    (Pre : Pt → Array Value → Prop) (Post : Pt → Array Value → Option Value → Pt → Prop) (PostX : Pt → Array Value → Addr → Pt → Prop) : Prop :=
  ∀ (m : MethodId) (meth : Method) (c : Code) (A : Pt) (g : JFrame) (ig : Instr) (mk : MethodId) (a : Array Value),
    Stand p l e R s m sargs below meth c A.U A.locs A.cells A.slots → g.method = m → g.locals.size = c.maxLocals → decode c.code g.pc = .ok (ig, len) →
    2 * g.monitorRoom + (g.stack.map fun v => v.category).sum ≤ W9 → A.U.methodNamed? y = some mk → Pre A a →
    (∃ (v : Option Value) (B : Pt), Stand p l e R s m sargs below meth c B.U B.locs B.cells B.slots ∧ Post A a v B ∧
      Steps p.tables e below (doInvoke e (A.U.setTop g) [] mk a).1 (B.U.setTop { g with pc := g.pc + len, stack := v.toList ++ g.stack })) ∨
    (∃ (q : Addr) (B : Pt), Stand p l e R s m sargs below meth c B.U B.locs B.cells B.slots ∧ PostX A a q B ∧
      Steps p.tables e below (doInvoke e (A.U.setTop g) [] mk a).1 ((B.U.setTop g).pushFrame (.throwing q)))
section Payer
variable {l : Launch} {R : Room} {p : Program} {e : Env} {below : List Frame} {s : State} {sargs : Array Value} {y : MethodName} {len W9 : Nat}
theorem vx_back {ws : List Cond} {rm : Room} {Pc : Array Value → State → Prop} {Qc : Array Value → State → Outcome → State → Prop} {XC : String → State → State → Prop} {mc ms : Nat} {free : Addr → Prop} {bytes : ByteArray} {maxL : Nat} {ret : Option FieldType}
    (hM : vx_Met l y ws rm Pc Qc XC mc ms free) (hblind : FrameBlind Pc) (hrc : rm.cells = mc) (hrs : rm.slots = ms)
    (hframes : rm.frames + 1 ≤ R.frames) (hlocals : W9 + (maxL + 11) + rm.locals ≤ R.locals)
    (hws : ∀ w ∈ ws, ∀ a' U, s.WarmedH U.vm → w.before a' U = true) (hcode : Cond.code y bytes maxL ret ∈ ws) (hinit : ∀ a' U, s.WarmedH U.vm → (Cond.initialized y.cls).before a' U = true) :
    vx_Back l R p e below s sargs y len W9 (PreOf R mc ms Pc) (PostOf Qc mc ms free) (vx_Post XC mc ms free) := by
  intro m meth c A g ig mk a X hg hsize hdg hW hn hp
  have h1 : (headSpec ws rm).pre.before a A.U = true := atoms_intro fun w hw => hws w hw _ _ X.warmed
  have h2 : (Cond.code y bytes maxL ret).before a A.U = true := hws _ hcode _ _ X.warmed
  have h3 : (Cond.initialized y.cls).before a A.U = true := hinit _ _ X.warmed
  have h4 : A.cells + (headSpec ws rm).room.cells ≤ R.cells := by rw [show (headSpec ws rm).room.cells = mc from hrc]; exact hp.1
  have h5 : A.slots + (headSpec ws rm).room.slots ≤ R.slots := by rw [show (headSpec ws rm).room.slots = ms from hrs]; exact hp.2.1
  have hPc : Pc a (A.U.calling g mk a) := hblind _ _ _ _ hp.2.2
  obtain ⟨U, Ls, c0, s0⟩ := A
  dsimp only [Pt.U, Pt.locs, Pt.cells, Pt.slots] at h1 h2 h3 h4 h5 X hn hPc ⊢
  obtain ⟨methY, cY, hmY, hcY, -, hlY, -, -, -, -⟩ := Cond.code_spec hn h2
  obtain ⟨kY, hkY, -⟩ := className_of_methodNamed hn
  have hinitY : kY.init = .initialized := Cond.initialized_spec (findClass_of_methodNamed hn) hkY h3
  have h : At U g.method c below := by rw [hg]; exact X.here
  have hlocals9 : W9 + (maxL + 11) + (headSpec ws rm).room.locals ≤ R.locals := hlocals
  have happ : (headSpec ws rm).appliesLoose y e.platform (U.calling g mk a) = true :=
    Spec.appliesLoose_calling (g := g) h hdg hn hkY hinitY
      (X.room_calling (g := g) (R' := (headSpec ws rm).room) hsize hmY hcY hframes (by rw [hlY]; omega) h4 h5) h1
  obtain ⟨mid, hmid⟩ := h.above
  have hfr : (U.setTop g).frames = (.java g :: mid) ++ below := by rw [State.frames_setTop' g h.top, hmid]; rfl
  obtain ⟨o, s₂, hsteps, -, hend, hq⟩ := Steps.callFree hM p X.admits X.cas X.clock (acts := []) hfr happ hPc trivial
  have hq' : vx_Q Qc XC mc ms free a (U.calling g mk a) o s₂ := hq
  rw [State.frames_setTop' g h.top] at hend
  obtain ⟨g₀, hg0⟩ := Option.isSome_iff_exists.mp h.top
  obtain ⟨r, hr⟩ := State.topJava?_eq_some.mp hg0
  have hr' : (({ U with heap := s₂.heap, slotsUsed := s₂.slotsUsed } : State).setVm s₂.vm).frames = .java g₀ :: r := hr
  rcases hq' with ⟨hqc, L, hfe, hL⟩ | ⟨q, rfl, E, ce, L, hx, hce, hcv, hcl, hW₂, hsm, hL⟩
  · obtain ⟨⟨v, rfl⟩, hW₂, e2, q2, q3, q4, q5, q6⟩ := id hfe
    have e3 : s₂ = ({ (U.calling g mk a).setFrames s₂.frames with heap := s₂.heap, slotsUsed := s₂.slotsUsed } : State).setVm s₂.vm := by
      have : s₂ = ({ s₂ with vm := (U.calling g mk a).vm } : State).setVm s₂.vm := rfl
      rw [e2] at this
      exact this
    obtain ⟨c₂, i₂, len₂, hc₂, hd₂, hf₂⟩ := hend
    have hW' : U.WarmedH s₂.vm := hW₂
    have hcc : c₂ = c := by
      have h1 : s₂.code? g.method = U.code? g.method := by
        rw [State.code?_eq, State.code?_eq, hW'.alike.method?]
      exact Option.some.inj (hc₂.symm.trans (h1.trans h.code))
    subst hcc
    have hlen : len₂ = len := by rw [hdg] at hd₂; cases hd₂; rfl
    subst hlen
    have hs₂ : s₂ = (({ U with heap := s₂.heap, slotsUsed := s₂.slotsUsed } : State).setVm s₂.vm).setTop { g with pc := g.pc + len₂, stack := v.toList ++ g.stack } := by
      refine e3.trans ?_
      rw [hf₂, State.calling_eq h.top, State.setFrames_setFrames, State.setTop_of_frames _ hr', hr]
      rfl
    have hsame : U.sameButNew ({ U with heap := s₂.heap, slotsUsed := s₂.slotsUsed } : State) L mc ms := by
      refine ⟨?_, q2, q3, q4, q5, q6⟩
      obtain ⟨t, ht, -⟩ := State.frames_cons hr
      show ({ U with heap := s₂.heap, slotsUsed := s₂.slotsUsed } : State) = { U.setFrames U.frames with heap := s₂.heap, slotsUsed := s₂.slotsUsed }
      rw [State.setFrames_self ht]
    subst hg
    refine Or.inl ⟨v, ⟨(({ U with heap := s₂.heap, slotsUsed := s₂.slotsUsed } : State).setVm s₂.vm), Ls ++ L, c0 + mc, s0 + ms⟩,
      ⟨X.admits, X.cas, X.clock, X.frames, X.room, X.hears, X.method, X.code, (X.here.setHeapUsed s₂.heap s₂.slotsUsed).setVm hW'.alike, X.tail, State.WarmedH.trans X.warmed hW', X.limits, X.bytes, X.same.trans (hsame.setVm s.vm)⟩,
      ⟨g, mk, s₂, L, rfl, rfl, hqc, rfl, hL, rfl, rfl⟩, ?_⟩
    show Steps p.tables e below _ ((({ U with heap := s₂.heap, slotsUsed := s₂.slotsUsed } : State).setVm s₂.vm).setTop { g with pc := g.pc + len₂, stack := v.toList ++ g.stack })
    rw [← hs₂]
    exact hsteps
  · obtain ⟨e2, q2, q3, q4, q5, q6⟩ := id hsm
    have e3 : s₂ = ({ (U.calling g mk a).setFrames s₂.frames with heap := s₂.heap, slotsUsed := s₂.slotsUsed } : State).setVm s₂.vm := by
      have : s₂ = ({ s₂ with vm := (U.calling g mk a).vm } : State).setVm s₂.vm := rfl
      rw [e2] at this
      exact this
    have hf₂ : s₂.frames = .throwing q :: .java g :: U.frames.tail := hend
    have hW' : U.WarmedH s₂.vm := hW₂
    have hs₂ : s₂ = ((({ U with heap := s₂.heap, slotsUsed := s₂.slotsUsed } : State).setVm s₂.vm).setTop g).pushFrame (.throwing q) := by
      refine e3.trans ?_
      rw [hf₂, State.calling_eq h.top, State.setFrames_setFrames, State.pushFrame, State.frames_setTop _ hr', State.setTop_of_frames _ hr', State.setFrames_setFrames, hr]
      rfl
    have hsame : U.sameButNew ({ U with heap := s₂.heap, slotsUsed := s₂.slotsUsed } : State) L mc ms := by
      refine ⟨?_, q2, q3, q4, q5, q6⟩
      obtain ⟨t, ht, -⟩ := State.frames_cons hr
      show ({ U with heap := s₂.heap, slotsUsed := s₂.slotsUsed } : State) = { U.setFrames U.frames with heap := s₂.heap, slotsUsed := s₂.slotsUsed }
      rw [State.setFrames_self ht]
    subst hg
    refine Or.inr ⟨q, ⟨(({ U with heap := s₂.heap, slotsUsed := s₂.slotsUsed } : State).setVm s₂.vm), Ls ++ L, c0 + mc, s0 + ms⟩,
      ⟨X.admits, X.cas, X.clock, X.frames, X.room, X.hears, X.method, X.code, (X.here.setHeapUsed s₂.heap s₂.slotsUsed).setVm hW'.alike, X.tail, State.WarmedH.trans X.warmed hW', X.limits, X.bytes, X.same.trans (hsame.setVm s.vm)⟩,
      ⟨g, mk, s₂, L, E, ce, rfl, rfl, hx, hce, hcv, hcl, rfl, hL, rfl, rfl⟩, ?_⟩
    show Steps p.tables e below _ (((({ U with heap := s₂.heap, slotsUsed := s₂.slotsUsed } : State).setVm s₂.vm).setTop g).pushFrame (.throwing q))
    rw [← hs₂]
    exact hsteps
end Payer
section Calls
variable {p : Program} {l : Launch} {e : Env} {R : Room} {s : State} {m : MethodId} {args : Array Value} {below : List Frame} {meth : Method} {c : Code} {T : State} {locs : List Loc} {cells slots : Nat}
theorem vx_callV (X : Stand p l e R s m args below meth c T locs cells slots) (hexec : p.tables.exec = Jvm.exec) {own C : String} {index : Nat} {y : MethodName} {bytes : ByteArray} {maxL : Nat} {ret : Option FieldType}
    (hown : s.vm.findClass own = some m.cls) (hlink : (Cond.methodLink own index y).before args s = true) (hinst : (Cond.instanceMethod y).before args s = true) (hsel : (Cond.selects C y y).before args s = true)
    (hcode : (Cond.code y bytes maxL ret).before args s = true) (hy : y.cls ≠ "java/lang/invoke/MethodHandle" ∧ y.cls ≠ "java/lang/invoke/VarHandle")
    {W9 : Nat} {Pre : Pt → Array Value → Prop} {Post : Pt → Array Value → Option Value → Pt → Prop} {PostX : Pt → Array Value → Addr → Pt → Prop} (hK : vx_Back l R p e below s args y 3 W9 Pre Post PostX)
    {b : Addr} {cellB : Cell} (hcell : T.heap[b]? = some cellB) (hobj : cellB.vm.isStatics = false) (hcls : s.vm.findClass C = some cellB.cls)
    {g : JFrame} (hg : g.method = m) (hsize : g.locals.size = c.maxLocals) {argsL rest : List Value} (hlen : ∀ sig, parseMethodDescriptor y.desc = some sig → argsL.length = sig.parameters.length)
    (hstack : g.stack = argsL.reverse ++ .ref b :: rest) (hW : 2 * g.monitorRoom + (rest.map fun v => v.category).sum ≤ W9) (hdg : decode c.code g.pc = .ok (.invokevirtual index, 3))
    (hpre : ∀ vm₁, s.WarmedH vm₁ → Pre ⟨T.setVm vm₁, locs, cells, slots⟩ (Value.ref b :: argsL).toArray) :
    (∃ (v : Option Value) (vm₁ : Vm) (B : Pt), s.WarmedH vm₁ ∧ Stand p l e R s m args below meth c B.U B.locs B.cells B.slots ∧ Post ⟨T.setVm vm₁, locs, cells, slots⟩ (Value.ref b :: argsL).toArray v B ∧
      ∀ target, Steps p.tables e below (B.U.setTop { g with pc := g.pc + 3, stack := v.toList ++ rest }) target → Steps p.tables e below (T.setTop g) target) ∨
    (∃ (q : Addr) (vm₁ : Vm) (B : Pt), s.WarmedH vm₁ ∧ Stand p l e R s m args below meth c B.U B.locs B.cells B.slots ∧ PostX ⟨T.setVm vm₁, locs, cells, slots⟩ (Value.ref b :: argsL).toArray q B ∧
      Steps p.tables e below (T.setTop g) ((B.U.setTop { g with stack := rest }).pushFrame (.throwing q))) := by
  obtain ⟨mk, methM, hnamed, hmethM, hstM, habM⟩ := Cond.instanceMethod_spec hinst
  obtain ⟨methM', cM, hmethM', -, -, -, -, -, -, hsigM⟩ := Cond.code_spec hnamed hcode
  cases hmethM.symm.trans hmethM'
  obtain ⟨c2, r2, m2, q1, q2, q3, q4, kP, hkP, hkPi⟩ := Cond.selects_spec hsel
  cases hcls.symm.trans q1
  cases (State.methodFound?_of_named hnamed hy).symm.trans q2
  cases hnamed.symm.trans q3
  have hselP : selectMethod e.platform s.vm cellB.cls mk = .method mk := by rw [Launch.admits_selectMethod X.admits]; exact q4
  obtain ⟨vm₁, X₁, hstep₁⟩ := X.invokevirtual hexec hown hlink hnamed hmethM hstM hkP hkPi hy (a := b) (cell := cellB) hcell
    (fun z h => by rw [h] at hobj; cases hobj) hselP hmethM habM hkP hkPi (g := g) hg (argsL := argsL) (rest := rest) (hlen _ hsigM) hstack hdg
  rcases hK m meth c ⟨T.setVm vm₁, locs, cells, slots⟩ { g with stack := rest } (.invokevirtual index) mk (Value.ref b :: argsL).toArray X₁ hg hsize hdg hW (X₁.named hnamed) (hpre vm₁ X₁.warmed) with ⟨v, B, X', hpost, hsteps⟩ | ⟨q, B, X', hpost, hsteps⟩
  · exact Or.inl ⟨v, vm₁, B, X₁.warmed, X', hpost, fun target h => hstep₁ _ fun acts => by rw [doInvoke_state]; exact hsteps.trans h⟩
  · exact Or.inr ⟨q, vm₁, B, X₁.warmed, X', hpost, hstep₁ _ fun acts => by rw [doInvoke_state]; exact hsteps⟩
theorem vx_callS (X : Stand p l e R s m args below meth c T locs cells slots) (hexec : p.tables.exec = Jvm.exec) {own : String} {index : Nat} {y : MethodName} {bytes : ByteArray} {maxL : Nat} {ret : Option FieldType}
    (hown : s.vm.findClass own = some m.cls) (hlink : (Cond.methodLink own index y).before args s = true) (hstat : (Cond.static y).before args s = true) (hinit : (Cond.initialized y.cls).before args s = true)
    (hcode : (Cond.code y bytes maxL ret).before args s = true) (hy : y.cls ≠ "java/lang/invoke/MethodHandle" ∧ y.cls ≠ "java/lang/invoke/VarHandle")
    {W9 : Nat} {Pre : Pt → Array Value → Prop} {Post : Pt → Array Value → Option Value → Pt → Prop} {PostX : Pt → Array Value → Addr → Pt → Prop} (hK : vx_Back l R p e below s args y 3 W9 Pre Post PostX)
    {g : JFrame} (hg : g.method = m) (hsize : g.locals.size = c.maxLocals) {argsL rest : List Value} (hlen : ∀ sig, parseMethodDescriptor y.desc = some sig → argsL.length = sig.parameters.length)
    (hstack : g.stack = argsL.reverse ++ rest) (hW : 2 * g.monitorRoom + (rest.map fun v => v.category).sum ≤ W9) (hdg : decode c.code g.pc = .ok (.invokestatic index, 3))
    (hpre : ∀ vm₁, s.WarmedH vm₁ → Pre ⟨T.setVm vm₁, locs, cells, slots⟩ argsL.toArray) :
    (∃ (v : Option Value) (vm₁ : Vm) (B : Pt), s.WarmedH vm₁ ∧ Stand p l e R s m args below meth c B.U B.locs B.cells B.slots ∧ Post ⟨T.setVm vm₁, locs, cells, slots⟩ argsL.toArray v B ∧
      ∀ target, Steps p.tables e below (B.U.setTop { g with pc := g.pc + 3, stack := v.toList ++ rest }) target → Steps p.tables e below (T.setTop g) target) ∨
    (∃ (q : Addr) (vm₁ : Vm) (B : Pt), s.WarmedH vm₁ ∧ Stand p l e R s m args below meth c B.U B.locs B.cells B.slots ∧ PostX ⟨T.setVm vm₁, locs, cells, slots⟩ argsL.toArray q B ∧
      Steps p.tables e below (T.setTop g) ((B.U.setTop { g with stack := rest }).pushFrame (.throwing q))) := by
  obtain ⟨mk, hnamed⟩ := Cond.code_named hcode
  obtain ⟨methM, cM, hmethM, -, -, -, -, -, -, hsigM⟩ := Cond.code_spec hnamed hcode
  have hstatic : methM.isStatic = true := Cond.static_spec hnamed hmethM hstat
  obtain ⟨kP, hkP, -⟩ := className_of_methodNamed hnamed
  have hinitP : kP.init = .initialized := Cond.initialized_spec (findClass_of_methodNamed hnamed) hkP hinit
  obtain ⟨vm₁, X₁, hstep₁⟩ := X.invokestatic hexec hown hlink hnamed hmethM hstatic hkP hinitP hy (g := g) hg (argsL := argsL) (rest := rest) (hlen _ hsigM) hstack hdg
  rcases hK m meth c ⟨T.setVm vm₁, locs, cells, slots⟩ { g with stack := rest } (.invokestatic index) mk argsL.toArray X₁ hg hsize hdg hW (X₁.named hnamed) (hpre vm₁ X₁.warmed) with ⟨v, B, X', hpost, hsteps⟩ | ⟨q, B, X', hpost, hsteps⟩
  · exact Or.inl ⟨v, vm₁, B, X₁.warmed, X', hpost, fun target h => hstep₁ _ fun acts => by rw [doInvoke_state]; exact hsteps.trans h⟩
  · exact Or.inr ⟨q, vm₁, B, X₁.warmed, X', hpost, hstep₁ _ fun acts => by rw [doInvoke_state]; exact hsteps⟩
end Calls
theorem vx_cls {s : State} {T : State} {vm₁ : Vm} {E : String} {k : ClassId} (hW : s.WarmedH vm₁) (h : (T.setVm vm₁).vm.findClass E = some k) : s.vm.findClass E = some k := by
  have h1 : vm₁.findClass E = some k := h
  rw [hW.alike.findClass] at h1
  exact h1
/-- the method's frame g, with q thrown over it -/
def vx_W (p : Program) (l : Launch) (e : Env) (R : Room) (s : State) (m : MethodId) (args : Array Value) (below : List Frame) (meth : Method) (c : Code) (H : Heap) (locs : List Loc) (cells slots : Nat) (Q : State → Prop) (g : JFrame) (q : Addr) : Prop :=
  ∀ T : State, T.heap = H → Stand p l e R s m args below meth c T locs cells slots → ∃ t, Steps p.tables e below ((T.setTop g).pushFrame (.throwing q)) t ∧ Q t
def vx_Run (p : Program) (l : Launch) (e : Env) (R : Room) (s : State) (m : MethodId) (args : Array Value) (below : List Frame) (meth : Method) (c : Code) (H : Heap) (locs : List Loc) (cells slots mc ms : Nat) (g : JFrame) (rest : List Value) (Qa : State → Outcome → State → Prop) (XC : String → State → State → Prop) (free : Addr → Prop) : Prop :=
  ∀ T : State, T.heap = H → Stand p l e R s m args below meth c T locs cells slots →
    (∃ (v : Option Value) (st₀ t T' : State) (L : List Loc), st₀.heap = H ∧ Stand p l e R s m args below meth c T' (locs ++ L) (cells + mc) (slots + ms) ∧ (∀ q ∈ L, free q.base) ∧ T'.heap = t.heap ∧ T'.vm = t.vm ∧ Qa st₀ (.returned v) t ∧
      Goes p e below T g T' { g with pc := g.pc + 3, stack := v.toList ++ rest }) ∨
    (∃ (q : Addr) (st₀ t T' : State) (L : List Loc) (E : String) (ce : Cell), st₀.heap = H ∧ Stand p l e R s m args below meth c T' (locs ++ L) (cells + mc) (slots + ms) ∧ (∀ z ∈ L, free z.base) ∧ T'.heap = t.heap ∧ T'.vm = t.vm ∧ XC E st₀ t ∧ t.heap[q]? = some ce ∧ ce.vm = .none ∧ s.vm.findClass E = some ce.cls ∧
      Steps p.tables e below (T.setTop g) ((T'.setTop { g with stack := rest }).pushFrame (.throwing q)))
def vx_X {S : Type} (px : S → Prop) (B : String → S → State → Prop) (A : Nat → Prop) : String → State → State → Prop := fun E st t => ∃ u : S, px u ∧ B E u t ∧ va_F A st t
section Runs
variable {p : Program} {l : Launch} {e : Env} {R : Room} {s : State} {m : MethodId} {args : Array Value} {below : List Frame} {meth : Method} {c : Code} {H : Heap} {locs : List Loc} {cells slots : Nat}
variable {y : MethodName} {bytes cc : ByteArray} {maxL nL mc ms n index : Nat} {ret : Option FieldType} {ws : List Cond} {rm : Room} {Pc : Array Value → State → Prop} {Qc : Array Value → State → Outcome → State → Prop} {XC : String → State → State → Prop} {free : Addr → Prop} {Ts : List Cond} {own C : String} {b : Addr} {As rest : List Value} {g : JFrame}
theorem vx_callBack (cb : CallB R s args own index y bytes maxL ret ws rm mc ms n) (hM : vx_Met l y ws rm Pc Qc XC mc ms free) (hbl : FrameBlind Pc) : vx_Back l R p e below s args y 3 8 (PreOf R mc ms Pc) (PostOf Qc mc ms free) (vx_Post XC mc ms free) := by
  obtain ⟨hrc, hrs, hfr, hlo, hws, hcw, -, hini, -⟩ := cb
  exact vx_back (bytes := bytes) (maxL := maxL) (ret := ret) hM hbl hrc hrs hfr hlo hws hcw (fun a' U hW => word_at hW (Or.inl (by first | rfl | simp [Cond.onTables, Cond.keeps, Cond.steady])) hini)
theorem vx_runV (S : CallFix p m c cc nL s args Ts own) (hM : vx_Met l y ws rm Pc Qc XC mc ms free) (cw : CallW R s args own C index y bytes maxL ret ws rm mc ms n) (hp : PreV s H C b Pc As)
    (hg : g.method = m) (hn : As.length = n) (hsize : g.locals.size = nL) (hstack : g.stack = As.reverse ++ .ref b :: rest) (hW : 2 * g.monitorRoom + (rest.map fun v => v.category).sum ≤ 8) (hdg : decode cc g.pc = .ok (.invokevirtual index, 3)) (hf : cells + mc ≤ R.cells ∧ slots + ms ≤ R.slots) :
    vx_Run p l e R s m args below meth c H locs cells slots mc ms g rest (Qc (Value.ref b :: As).toArray) XC free := by
  have hK : vx_Back l R p e below s args y 3 8 (PreOf R mc ms Pc) (PostOf Qc mc ms free) (vx_Post XC mc ms free) := vx_callBack cw.1 hM hp.1
  obtain ⟨⟨-, -, -, -, -, -, hcode, -, hy, hlen, hl⟩, hin, hse⟩ := cw
  obtain ⟨hx, hb, hml, ho, -⟩ := S
  obtain ⟨-, ⟨cellB, hcB, hoB, hclB⟩, hPc⟩ := hp
  intro T hT X
  rcases vx_callV X hx (C := C) (bytes := bytes) (maxL := maxL) (ret := ret) ho hl hin hse hcode hy hK (by rw [hT]; exact hcB) hoB hclB hg (hsize.trans hml.symm) (argsL := As) (rest := rest) (fun sig h => hn.trans (hlen sig h)) hstack hW (by rw [hb]; exact hdg)
    (fun vm₁ hW₁ => ⟨hf.1, hf.2, hPc (T.setVm vm₁) hT hW₁⟩) with ⟨v, vm₁, ⟨U', l2, c2, s2⟩, hW₁, X', ⟨g', mk, t, L, e1, e2, hq, h1, hL, h2, h3⟩, st⟩ | ⟨q, vm₁, ⟨U', l2, c2, s2⟩, hW₁, X', ⟨g', mk, t, L, E, ce, e1, e2, hq, hce, hcv, hcl, h1, hL, h2, h3⟩, st⟩
  · dsimp only [Pt.U, Pt.locs, Pt.cells, Pt.slots] at X' e1 e2 h1 h2 h3 st
    subst h1; subst h2; subst h3
    exact Or.inl ⟨v, (T.setVm vm₁).calling g' mk (Value.ref b :: As).toArray, t, U', L, hT, X', hL, e1, e2, hq, st⟩
  · dsimp only [Pt.U, Pt.locs, Pt.cells, Pt.slots] at X' e1 e2 h1 h2 h3 st hcl
    subst h1; subst h2; subst h3
    exact Or.inr ⟨q, (T.setVm vm₁).calling g' mk (Value.ref b :: As).toArray, t, U', L, E, ce, hT, X', hL, e1, e2, hq, hce, hcv, vx_cls hW₁ hcl, st⟩
theorem vx_runS (S : CallFix p m c cc nL s args Ts own) (hM : vx_Met l y ws rm Pc Qc XC mc ms free) (cw : CallB R s args own index y bytes maxL ret ws rm mc ms n ∧ (Cond.static y).before args s = true) (hp : PreS s H Pc As)
    (hg : g.method = m) (hn : As.length = n) (hsize : g.locals.size = nL) (hstack : g.stack = As.reverse ++ rest) (hW : 2 * g.monitorRoom + (rest.map fun v => v.category).sum ≤ 8) (hdg : decode cc g.pc = .ok (.invokestatic index, 3)) (hf : cells + mc ≤ R.cells ∧ slots + ms ≤ R.slots) :
    vx_Run p l e R s m args below meth c H locs cells slots mc ms g rest (Qc As.toArray) XC free := by
  have hK : vx_Back l R p e below s args y 3 8 (PreOf R mc ms Pc) (PostOf Qc mc ms free) (vx_Post XC mc ms free) := vx_callBack cw.1 hM hp.1
  obtain ⟨⟨-, -, -, -, -, -, hcode, hini, hy, hlen, hl⟩, hstt⟩ := cw
  obtain ⟨hx, hb, hml, ho, -⟩ := S
  intro T hT X
  rcases vx_callS X hx (bytes := bytes) (maxL := maxL) (ret := ret) ho hl hstt hini hcode hy hK hg (hsize.trans hml.symm) (argsL := As) (rest := rest) (fun sig h => hn.trans (hlen sig h)) hstack hW (by rw [hb]; exact hdg)
    (fun vm₁ hW₁ => ⟨hf.1, hf.2, hp.2 (T.setVm vm₁) hT hW₁⟩) with ⟨v, vm₁, ⟨U', l2, c2, s2⟩, hW₁, X', ⟨g', mk, t, L, e1, e2, hq, h1, hL, h2, h3⟩, st⟩ | ⟨q, vm₁, ⟨U', l2, c2, s2⟩, hW₁, X', ⟨g', mk, t, L, E, ce, e1, e2, hq, hce, hcv, hcl, h1, hL, h2, h3⟩, st⟩
  · dsimp only [Pt.U, Pt.locs, Pt.cells, Pt.slots] at X' e1 e2 h1 h2 h3 st
    subst h1; subst h2; subst h3
    exact Or.inl ⟨v, (T.setVm vm₁).calling g' mk As.toArray, t, U', L, hT, X', hL, e1, e2, hq, st⟩
  · dsimp only [Pt.U, Pt.locs, Pt.cells, Pt.slots] at X' e1 e2 h1 h2 h3 st hcl
    subst h1; subst h2; subst h3
    exact Or.inr ⟨q, (T.setVm vm₁).calling g' mk As.toArray, t, U', L, E, ce, hT, X', hL, e1, e2, hq, hce, hcv, vx_cls hW₁ hcl, st⟩
end Runs
section Rows
variable {p : Program} {l : Launch} {e : Env} {R : Room} {s : State} {m : MethodId} {args : Array Value} {below : List Frame} {meth : Method} {c : Code} {H : Heap} {locs : List Loc} {cells slots : Nat} {Q : State → Prop}
variable {mc ms : Nat} {free : Addr → Prop} {A0 A1 : Nat → Prop} {H0 : Heap} {a : Array Value} {pc : Nat} {ls : Array Slot} {st0 rest : List Value}
theorem vx_keep {st₀ t T' : State} {L : List Loc} (h0 : st₀.heap = H) (e1 : T'.heap = t.heap) (hS : va_S A0 H0 H locs) (hA : ∀ q, q < H.size → A1 q → A0 q) (hf : ∀ q, free q → A0 q) (hL : ∀ q ∈ L, free q.base) (hF : va_F A1 st₀ t) :
    H.size ≤ T'.heap.size ∧ (∀ q : Nat, q < H.size → ¬ A1 q → T'.heap[q]? = H[q]?) ∧ va_S A0 H0 T'.heap (locs ++ L) := by
  obtain ⟨hz, hk⟩ := hF
  rw [h0] at hz hk
  exact ⟨by rw [e1]; exact hz, fun q h1 h2 => by rw [e1]; exact hk q h1 h2,
    ⟨Nat.le_trans hS.1 (by rw [e1]; exact hz), fun q h1 h2 => by rw [e1, hk q (Nat.lt_of_lt_of_le h1 hS.1) (fun z => h2 (hA q (Nat.lt_of_lt_of_le h1 hS.1) z))]; exact hS.2.1 q h1 h2, fun q hq => by
      rcases List.mem_append.mp hq with h | h
      · exact hS.2.2 q h
      · exact hf _ (hL q h)⟩⟩
theorem vx_calli {S SX : Type} {post : Int32 → S → Prop} {px : SX → Prop} {B : S → State → Prop} {BX : String → SX → State → Prop} {AX : Nat → Prop} (hr : vx_Run p l e R s m args below meth c H locs cells slots mc ms (F0 m pc ls st0) rest (va_Qi post B A1 a) (vx_X px BX AX) free) (hS : va_S A0 H0 H locs) (hA : ∀ q, q < H.size → A1 q → A0 q) (hf : ∀ q, free q → A0 q) (hAX : ∀ q, q < H.size → AX q → A0 q)
    (kx : ∀ (E : String) (ce : Cell) (q9 : Addr) (u : SX) (t : State) (H1 : Heap) (locs1 : List Loc), t.heap = H1 → s.vm.Alike t.vm → px u → BX E u t → H.size ≤ H1.size → (∀ q : Nat, q < H.size → ¬ AX q → H1[q]? = H[q]?) → va_S A0 H0 H1 locs1 → H1[q9]? = some ce → ce.vm = .none → s.vm.findClass E = some ce.cls → vx_W p l e R s m args below meth c H1 locs1 (cells + mc) (slots + ms) Q (F0 m pc ls rest) q9)
    (kk : ∀ (r : Int32) (u : S) (t : State) (H1 : Heap) (locs1 : List Loc), t.heap = H1 → s.vm.Alike t.vm → post r u → B u t → H.size ≤ H1.size → (∀ q : Nat, q < H.size → ¬ A1 q → H1[q]? = H[q]?) → va_S A0 H0 H1 locs1 → W p l e R s m args below meth c H1 locs1 (cells + mc) (slots + ms) Q (F0 m (pc + 3) ls (.int r :: rest))) : W p l e R s m args below meth c H locs cells slots Q (F0 m pc ls st0) := by
  intro T hT X
  rcases hr T hT X with ⟨v, st₀, t, T', L, h0, X', hL, e1, e2, ⟨⟨r, u, hv, hp, hb⟩, hF⟩, st⟩ | ⟨q, st₀, t, T', L, E, ce, h0, X', hL, e1, e2, ⟨u, hp, hb, hF⟩, hce, hcv, hcl, st⟩
  · cases hv
    obtain ⟨k1, k2, k3⟩ := vx_keep h0 e1 hS hA hf hL hF
    obtain ⟨t2, a1, b1⟩ := kk r u t T'.heap (locs ++ L) e1.symm (by rw [← e2]; exact X'.warmed.alike) hp hb k1 k2 k3 T' rfl X'
    exact ⟨t2, st t2 a1, b1⟩
  · obtain ⟨k1, k2, k3⟩ := vx_keep h0 e1 hS hAX hf hL hF
    obtain ⟨t2, a1, b1⟩ := kx E ce q u t T'.heap (locs ++ L) e1.symm (by rw [← e2]; exact X'.warmed.alike) hp hb k1 k2 k3 (by rw [e1]; exact hce) hcv hcl T' rfl X'
    exact ⟨t2, st.trans a1, b1⟩
theorem vx_calll {S SX : Type} {post : Int64 → S → Prop} {px : SX → Prop} {B : S → State → Prop} {BX : String → SX → State → Prop} {AX : Nat → Prop} (hr : vx_Run p l e R s m args below meth c H locs cells slots mc ms (F0 m pc ls st0) rest (va_Ql post B A1 a) (vx_X px BX AX) free) (hS : va_S A0 H0 H locs) (hA : ∀ q, q < H.size → A1 q → A0 q) (hf : ∀ q, free q → A0 q) (hAX : ∀ q, q < H.size → AX q → A0 q)
    (kx : ∀ (E : String) (ce : Cell) (q9 : Addr) (u : SX) (t : State) (H1 : Heap) (locs1 : List Loc), t.heap = H1 → s.vm.Alike t.vm → px u → BX E u t → H.size ≤ H1.size → (∀ q : Nat, q < H.size → ¬ AX q → H1[q]? = H[q]?) → va_S A0 H0 H1 locs1 → H1[q9]? = some ce → ce.vm = .none → s.vm.findClass E = some ce.cls → vx_W p l e R s m args below meth c H1 locs1 (cells + mc) (slots + ms) Q (F0 m pc ls rest) q9)
    (kk : ∀ (r : Int64) (u : S) (t : State) (H1 : Heap) (locs1 : List Loc), t.heap = H1 → s.vm.Alike t.vm → post r u → B u t → H.size ≤ H1.size → (∀ q : Nat, q < H.size → ¬ A1 q → H1[q]? = H[q]?) → va_S A0 H0 H1 locs1 → W p l e R s m args below meth c H1 locs1 (cells + mc) (slots + ms) Q (F0 m (pc + 3) ls (.long r :: rest))) : W p l e R s m args below meth c H locs cells slots Q (F0 m pc ls st0) := by
  intro T hT X
  rcases hr T hT X with ⟨v, st₀, t, T', L, h0, X', hL, e1, e2, ⟨⟨r, u, hv, hp, hb⟩, hF⟩, st⟩ | ⟨q, st₀, t, T', L, E, ce, h0, X', hL, e1, e2, ⟨u, hp, hb, hF⟩, hce, hcv, hcl, st⟩
  · cases hv
    obtain ⟨k1, k2, k3⟩ := vx_keep h0 e1 hS hA hf hL hF
    obtain ⟨t2, a1, b1⟩ := kk r u t T'.heap (locs ++ L) e1.symm (by rw [← e2]; exact X'.warmed.alike) hp hb k1 k2 k3 T' rfl X'
    exact ⟨t2, st t2 a1, b1⟩
  · obtain ⟨k1, k2, k3⟩ := vx_keep h0 e1 hS hAX hf hL hF
    obtain ⟨t2, a1, b1⟩ := kx E ce q u t T'.heap (locs ++ L) e1.symm (by rw [← e2]; exact X'.warmed.alike) hp hb k1 k2 k3 (by rw [e1]; exact hce) hcv hcl T' rfl X'
    exact ⟨t2, st.trans a1, b1⟩
theorem vx_callf {S SX : Type} {post : UInt32 → S → Prop} {px : SX → Prop} {B : S → State → Prop} {BX : String → SX → State → Prop} {AX : Nat → Prop} (hr : vx_Run p l e R s m args below meth c H locs cells slots mc ms (F0 m pc ls st0) rest (va_Qf post B A1 a) (vx_X px BX AX) free) (hS : va_S A0 H0 H locs) (hA : ∀ q, q < H.size → A1 q → A0 q) (hf : ∀ q, free q → A0 q) (hAX : ∀ q, q < H.size → AX q → A0 q)
    (kx : ∀ (E : String) (ce : Cell) (q9 : Addr) (u : SX) (t : State) (H1 : Heap) (locs1 : List Loc), t.heap = H1 → s.vm.Alike t.vm → px u → BX E u t → H.size ≤ H1.size → (∀ q : Nat, q < H.size → ¬ AX q → H1[q]? = H[q]?) → va_S A0 H0 H1 locs1 → H1[q9]? = some ce → ce.vm = .none → s.vm.findClass E = some ce.cls → vx_W p l e R s m args below meth c H1 locs1 (cells + mc) (slots + ms) Q (F0 m pc ls rest) q9)
    (kk : ∀ (r : UInt32) (u : S) (t : State) (H1 : Heap) (locs1 : List Loc), t.heap = H1 → s.vm.Alike t.vm → post r u → B u t → H.size ≤ H1.size → (∀ q : Nat, q < H.size → ¬ A1 q → H1[q]? = H[q]?) → va_S A0 H0 H1 locs1 → W p l e R s m args below meth c H1 locs1 (cells + mc) (slots + ms) Q (F0 m (pc + 3) ls (.float r :: rest))) : W p l e R s m args below meth c H locs cells slots Q (F0 m pc ls st0) := by
  intro T hT X
  rcases hr T hT X with ⟨v, st₀, t, T', L, h0, X', hL, e1, e2, ⟨⟨r, u, hv, hp, hb⟩, hF⟩, st⟩ | ⟨q, st₀, t, T', L, E, ce, h0, X', hL, e1, e2, ⟨u, hp, hb, hF⟩, hce, hcv, hcl, st⟩
  · cases hv
    obtain ⟨k1, k2, k3⟩ := vx_keep h0 e1 hS hA hf hL hF
    obtain ⟨t2, a1, b1⟩ := kk r u t T'.heap (locs ++ L) e1.symm (by rw [← e2]; exact X'.warmed.alike) hp hb k1 k2 k3 T' rfl X'
    exact ⟨t2, st t2 a1, b1⟩
  · obtain ⟨k1, k2, k3⟩ := vx_keep h0 e1 hS hAX hf hL hF
    obtain ⟨t2, a1, b1⟩ := kx E ce q u t T'.heap (locs ++ L) e1.symm (by rw [← e2]; exact X'.warmed.alike) hp hb k1 k2 k3 (by rw [e1]; exact hce) hcv hcl T' rfl X'
    exact ⟨t2, st.trans a1, b1⟩
theorem vx_calld {S SX : Type} {post : UInt64 → S → Prop} {px : SX → Prop} {B : S → State → Prop} {BX : String → SX → State → Prop} {AX : Nat → Prop} (hr : vx_Run p l e R s m args below meth c H locs cells slots mc ms (F0 m pc ls st0) rest (va_Qd post B A1 a) (vx_X px BX AX) free) (hS : va_S A0 H0 H locs) (hA : ∀ q, q < H.size → A1 q → A0 q) (hf : ∀ q, free q → A0 q) (hAX : ∀ q, q < H.size → AX q → A0 q)
    (kx : ∀ (E : String) (ce : Cell) (q9 : Addr) (u : SX) (t : State) (H1 : Heap) (locs1 : List Loc), t.heap = H1 → s.vm.Alike t.vm → px u → BX E u t → H.size ≤ H1.size → (∀ q : Nat, q < H.size → ¬ AX q → H1[q]? = H[q]?) → va_S A0 H0 H1 locs1 → H1[q9]? = some ce → ce.vm = .none → s.vm.findClass E = some ce.cls → vx_W p l e R s m args below meth c H1 locs1 (cells + mc) (slots + ms) Q (F0 m pc ls rest) q9)
    (kk : ∀ (r : UInt64) (u : S) (t : State) (H1 : Heap) (locs1 : List Loc), t.heap = H1 → s.vm.Alike t.vm → post r u → B u t → H.size ≤ H1.size → (∀ q : Nat, q < H.size → ¬ A1 q → H1[q]? = H[q]?) → va_S A0 H0 H1 locs1 → W p l e R s m args below meth c H1 locs1 (cells + mc) (slots + ms) Q (F0 m (pc + 3) ls (.double r :: rest))) : W p l e R s m args below meth c H locs cells slots Q (F0 m pc ls st0) := by
  intro T hT X
  rcases hr T hT X with ⟨v, st₀, t, T', L, h0, X', hL, e1, e2, ⟨⟨r, u, hv, hp, hb⟩, hF⟩, st⟩ | ⟨q, st₀, t, T', L, E, ce, h0, X', hL, e1, e2, ⟨u, hp, hb, hF⟩, hce, hcv, hcl, st⟩
  · cases hv
    obtain ⟨k1, k2, k3⟩ := vx_keep h0 e1 hS hA hf hL hF
    obtain ⟨t2, a1, b1⟩ := kk r u t T'.heap (locs ++ L) e1.symm (by rw [← e2]; exact X'.warmed.alike) hp hb k1 k2 k3 T' rfl X'
    exact ⟨t2, st t2 a1, b1⟩
  · obtain ⟨k1, k2, k3⟩ := vx_keep h0 e1 hS hAX hf hL hF
    obtain ⟨t2, a1, b1⟩ := kx E ce q u t T'.heap (locs ++ L) e1.symm (by rw [← e2]; exact X'.warmed.alike) hp hb k1 k2 k3 (by rw [e1]; exact hce) hcv hcl T' rfl X'
    exact ⟨t2, st.trans a1, b1⟩
theorem vx_callv {S SX : Type} {post : S → Prop} {px : SX → Prop} {B : S → State → Prop} {BX : String → SX → State → Prop} {AX : Nat → Prop} (hr : vx_Run p l e R s m args below meth c H locs cells slots mc ms (F0 m pc ls st0) rest (va_Qv post B A1 a) (vx_X px BX AX) free) (hS : va_S A0 H0 H locs) (hA : ∀ q, q < H.size → A1 q → A0 q) (hf : ∀ q, free q → A0 q) (hAX : ∀ q, q < H.size → AX q → A0 q)
    (kx : ∀ (E : String) (ce : Cell) (q9 : Addr) (u : SX) (t : State) (H1 : Heap) (locs1 : List Loc), t.heap = H1 → s.vm.Alike t.vm → px u → BX E u t → H.size ≤ H1.size → (∀ q : Nat, q < H.size → ¬ AX q → H1[q]? = H[q]?) → va_S A0 H0 H1 locs1 → H1[q9]? = some ce → ce.vm = .none → s.vm.findClass E = some ce.cls → vx_W p l e R s m args below meth c H1 locs1 (cells + mc) (slots + ms) Q (F0 m pc ls rest) q9)
    (kk : ∀ (u : S) (t : State) (H1 : Heap) (locs1 : List Loc), t.heap = H1 → s.vm.Alike t.vm → post u → B u t → H.size ≤ H1.size → (∀ q : Nat, q < H.size → ¬ A1 q → H1[q]? = H[q]?) → va_S A0 H0 H1 locs1 → W p l e R s m args below meth c H1 locs1 (cells + mc) (slots + ms) Q (F0 m (pc + 3) ls (rest))) : W p l e R s m args below meth c H locs cells slots Q (F0 m pc ls st0) := by
  intro T hT X
  rcases hr T hT X with ⟨v, st₀, t, T', L, h0, X', hL, e1, e2, ⟨⟨u, hv, hp, hb⟩, hF⟩, st⟩ | ⟨q, st₀, t, T', L, E, ce, h0, X', hL, e1, e2, ⟨u, hp, hb, hF⟩, hce, hcv, hcl, st⟩
  · cases hv
    obtain ⟨k1, k2, k3⟩ := vx_keep h0 e1 hS hA hf hL hF
    obtain ⟨t2, a1, b1⟩ := kk u t T'.heap (locs ++ L) e1.symm (by rw [← e2]; exact X'.warmed.alike) hp hb k1 k2 k3 T' rfl X'
    exact ⟨t2, st t2 a1, b1⟩
  · obtain ⟨k1, k2, k3⟩ := vx_keep h0 e1 hS hAX hf hL hF
    obtain ⟨t2, a1, b1⟩ := kx E ce q u t T'.heap (locs ++ L) e1.symm (by rw [← e2]; exact X'.warmed.alike) hp hb k1 k2 k3 (by rw [e1]; exact hce) hcv hcl T' rfl X'
    exact ⟨t2, st.trans a1, b1⟩
/-- caught by the row x of this method's table; the rows ahead don't take it -/
theorem vx_catch {own name : String} {E : String} {ce : Cell} {q : Addr} (hown : s.vm.findClass own = some m.cls) (pre : List ExceptionTableEntry) (x : ExceptionTableEntry) (suf : List ExceptionTableEntry) (hsplit : c.exceptionTable.toList = pre ++ x :: suf)
    (hpass : ∀ z ∈ pre, covers z pc = false ∨ (z.catchType ≠ 0 ∧ ∃ nm : String, (Cond.classLink own z.catchType nm).before args s = true ∧ va_Nc E nm s)) (hx : covers x pc = true) (h0 : x.catchType ≠ 0)
    (hlink : (Cond.classLink own x.catchType name).before args s = true) (hcast : (Cond.castable E name).before args s = true) (hcell : H[q]? = some ce) (hv : ce.vm = .none) (hcl : s.vm.findClass E = some ce.cls)
    (kk : W p l e R s m args below meth c H locs cells slots Q (F0 m x.handlerPc ls [.ref q])) : vx_W p l e R s m args below meth c H locs cells slots Q (F0 m pc ls rest) q := by
  intro T hT X
  have hpl : e.platform.magicAccessors = ({} : Platform).magicAccessors := by rw [X.admits.platform]
  obtain ⟨c3, c4, hc3, hc4, hasg⟩ := Cond.castable_spec hcast
  cases Option.some.inj (hc3.symm.trans hcl)
  obtain ⟨c5, hc5, hcl5⟩ := Cond.classLink_spec hown hlink e.platform hpl
  cases Option.some.inj (hc4.symm.trans hc5)
  obtain ⟨vm', X', st⟩ := Jvm.Stand.thenCaughtThrough X q (g := F0 m pc ls rest) rfl (Steps.refl _) (by rw [hT]; exact hcell) (by rw [hv]; rfl) (by obtain ⟨k9, h9, -⟩ := Vm.findClass_spec hcl; exact ⟨k9, h9⟩) pre x suf hsplit
    (fun z hz => by
      rcases hpass z hz with h | ⟨hz0, nm, hl1, hn1⟩
      · exact Or.inl h
      · obtain ⟨c6, hc6, hcl6⟩ := Cond.classLink_spec hown hl1 e.platform hpl
        obtain ⟨a8, b8, h1, h2, h3⟩ := hn1
        cases Option.some.inj (h1.symm.trans hcl)
        cases Option.some.inj (h2.symm.trans hc6)
        exact Or.inr ⟨hz0, _, hcl6, h3⟩) hx (Or.inr ⟨h0, c4, hcl5, hasg⟩)
  obtain ⟨t, a1, b1⟩ := kk (T.setVm vm') hT X'
  exact ⟨t, st.trans a1, b1⟩
end Rows
section Ends
variable {p : Program} {l : Launch} {e : Env} {R : Room} {s : State} {m : MethodId} {args : Array Value} {below : List Frame} {meth : Method} {c : Code} {H : Heap} {locs : List Loc} {cells slots : Nat} {Q : State → Prop}
variable {mc ms : Nat} {free : Addr → Prop} {A0 A1 : Nat → Prop} {H0 : Heap} {a : Array Value} {ls : Array Slot} {st0 rest : List Value}
variable {Qc : Array Value → State → Outcome → State → Prop} {XC : String → State → State → Prop}
/-- what a body that may throw owes at its end -/
def vx_MQ (below : List Frame) (Qc : Array Value → State → Outcome → State → Prop) (XC : String → State → State → Prop) (a : Array Value) (s : State) (mc ms : Nat) (free : Addr → Prop) : State → Prop := fun t =>
  ∃ o, t.status = .running ∧ Ended t below o ∧ vx_Q Qc XC mc ms free a s o t
theorem vx_ret {g : JFrame} {mc ms : Nat} (k : W p l e R s m args below meth c H locs cells slots (MQ below Qc args s mc ms free) g) : W p l e R s m args below meth c H locs cells slots (vx_MQ below Qc XC args s mc ms free) g := by
  intro T hT X
  obtain ⟨t, a1, o, b1, b2, b3, b4⟩ := k T hT X
  exact ⟨t, a1, o, b1, b2, Or.inl ⟨b3, b4⟩⟩
/-- not caught here: it goes on to the caller -/
theorem vx_widen {g : JFrame} {q : Addr} {k n : Nat} (h1 : cells ≤ k) (h2 : slots ≤ n) (kk : vx_W p l e R s m args below meth c H locs k n Q g q) : vx_W p l e R s m args below meth c H locs cells slots Q g q := fun T hT X => kk T hT (stand_widen X h1 h2)
theorem vx_out {pc : Nat} {E : String} {ce : Cell} {q : Addr} {mc ms : Nat} (hout : ∀ x ∈ c.exceptionTable.toList, covers x pc = false) (hlocks : meth.locks = false) (hcell : H[q]? = some ce) (hv : ce.vm = .none) (hcl : s.vm.findClass E = some ce.cls)
    (hx : ∀ t : State, t.heap = H → s.vm.Alike t.vm → XC E s t) (hf : ∀ z ∈ locs, free z.base) (hc : cells ≤ mc) (hs : slots ≤ ms) :
    vx_W p l e R s m args below meth c H locs cells slots (vx_MQ below Qc XC args s mc ms free) (F0 m pc ls rest) q := by
  intro T hT X
  obtain ⟨st1, hrun, hend, hW, hsm⟩ := X.leaveThrown q (g := F0 m pc ls rest) rfl rfl rfl hout hlocks
  have hcell9 : (T.setFrames (.throwing q :: below)).heap[q]? = some ce := by
    show T.heap[q]? = some ce
    rw [hT]; exact hcell
  exact ⟨_, st1, .threw q, hrun, hend, Or.inr ⟨q, rfl, E, ce, locs, hx _ hT hW.alike, hcell9, hv, hcl, hW, hsm.mono hc hs, hf⟩⟩
theorem vx_frame {U : State} {k n : Nat} (h : s.sameButNew ({ U with vm := s.vm } : State) locs k n) : s.heap.size ≤ U.heap.size ∧ ∀ q : Nat, q < s.heap.size → (∀ z ∈ locs, z.base ≠ q) → U.heap[q]? = s.heap[q]? := by
  obtain ⟨-, h2, -, -, -, h6⟩ := h
  refine ⟨h2, fun q hq hz => ?_⟩
  obtain ⟨c9, e1, e2, e3, e4⟩ := h6 q _ (Array.getElem?_eq_getElem hq)
  have hs : c9.slots = (s.heap[q]).slots := Array.ext_getElem? fun i => e4 i fun hm => hz _ hm rfl
  have h9 : c9 = s.heap[q] := by
    rw [hs] at e2
    exact e2
  have e5 : U.heap[q]? = some c9 := e1
  rw [e5, h9, Array.getElem?_eq_getElem hq]
/-- the words of a throw but the four that speak of the heap -/
def vx_no (w : Cond) : Bool := decide (w ≠ .isRef (.static Bundle.tN "UNASSIGNED_STACK" Bundle.steD)) && decide (w ≠ .isRef (.static Bundle.tN "SUPPRESSED_SENTINEL" Bundle.listD)) && decide (w ≠ .laysStatic Bundle.tN "UNASSIGNED_STACK" Bundle.steD) && decide (w ≠ .laysStatic Bundle.tN "SUPPRESSED_SENTINEL" Bundle.listD)
def vx_at0 (own : String) (ic : Nat) (X : String) (names : List String) : List Cond := (Bundle.ownAtoms0 own ic X names).filter vx_no
def vx_atS (own : String) (ic : Nat) (X : String) (names : List String) : List Cond := (Bundle.ownAtoms own ic X names).filter vx_no
/-- a word that the tables alone decide, or a good one -/
def vx_ot (w : Cond) : Bool := w.onTables || goodWord w
theorem vx_ot_at {args a' : Array Value} {s U : State} {w : Cond} (hW : s.WarmedH U.vm) (hvm : s.vm = U.vm) (hg : vx_ot w = true) (h : w.before args s = true) : w.before a' U = true := by
  simp only [vx_ot, Bool.or_eq_true] at hg
  rcases hg with hg | hg
  · exact va_tabs hg hvm h
  · exact word_at hW (good_of_word hg) h
/-- a list's words: the good ones out of the method's own list, the others by premises of their own -/
theorem vx_hat {args : Array Value} {s : State} {L B : List Cond} (h1 : ∀ w ∈ L.filter goodWord, w.before args s = true) (h2 : ∀ w ∈ L.filter (fun w => !goodWord w), w ∈ B) (h3 : ∀ w ∈ B, w.before args s = true) : ∀ w ∈ L, w.before args s = true := by
  intro w hw
  by_cases g : goodWord w = true
  · exact h1 w (List.mem_filter.mpr ⟨hw, g⟩)
  · refine h3 w (h2 w (List.mem_filter.mpr ⟨hw, ?_⟩))
    show (!goodWord w) = true
    cases hgw : goodWord w
    · rfl
    · exact absurd hgw g
theorem vx_c {args : Array Value} {s : State} {w : Cond} {B : List Cond} (h : w.before args s = true) (t : ∀ w ∈ B, w.before args s = true) : ∀ w' ∈ w :: B, w'.before args s = true := fun w' h' => (List.mem_cons.mp h').elim (fun e => by rw [e]; exact h) (t w')
theorem vx_n {args : Array Value} {s : State} : ∀ w ∈ ([] : List Cond), w.before args s = true := fun _ h => nomatch h
theorem vx_own {args : Array Value} {s : State} {L : List Cond} (h1 : ∀ w ∈ L.filter vx_no, w.before args s = true)
    (hU : (Cond.isRef (.static Bundle.tN "UNASSIGNED_STACK" Bundle.steD)).before args s = true) (hN : (Cond.isRef (.static Bundle.tN "SUPPRESSED_SENTINEL" Bundle.listD)).before args s = true)
    (lU : (Cond.laysStatic Bundle.tN "UNASSIGNED_STACK" Bundle.steD).before args s = true) (lN : (Cond.laysStatic Bundle.tN "SUPPRESSED_SENTINEL" Bundle.listD).before args s = true) : ∀ w ∈ L, w.before args s = true := by
  intro w hw
  by_cases e1 : w = .isRef (.static Bundle.tN "UNASSIGNED_STACK" Bundle.steD)
  · rw [e1]; exact hU
  · by_cases e2 : w = .isRef (.static Bundle.tN "SUPPRESSED_SENTINEL" Bundle.listD)
    · rw [e2]; exact hN
    · by_cases e3 : w = .laysStatic Bundle.tN "UNASSIGNED_STACK" Bundle.steD
      · rw [e3]; exact lU
      · by_cases e4 : w = .laysStatic Bundle.tN "SUPPRESSED_SENTINEL" Bundle.listD
        · rw [e4]; exact lN
        · exact h1 w (List.mem_filter.mpr ⟨hw, by unfold vx_no; rw [decide_eq_true e1, decide_eq_true e2, decide_eq_true e3, decide_eq_true e4]; rfl⟩)
/-- where a static field lies, its class's statics cell in H -/
def vx_L (C n d : String) (A : Nat → Prop) (U : State) (H : Heap) : Prop := ∃ (c : ClassId) (k : Class) (i : Nat) (f : Field) (a : Nat) (cell : Cell), U.vm.findClass C = some c ∧ U.fieldFound? C n d = some (c, k, i, f) ∧ f.isStatic = true ∧ k.statics = some a ∧ H[a]? = some cell ∧ cell.vm.isStatics = true ∧ cell.cls = c ∧ f.slot < cell.slots.size ∧ k.staticTypes[f.slot]? = some f.type ∧ ¬ A a
theorem vx_L.moved {C n d : String} {A : Nat → Prop} {u U : State} {H : Heap} (hvm : u.vm.Alike U.vm) (h : vx_L C n d A u H) : vx_L C n d A U H := by
  obtain ⟨c, k, i, f, a, cell, h1, h2, h3, h4, h5, h6, h7, h8, h9, h10⟩ := h
  obtain ⟨k', hi', he⟩ := State.fieldFound?_setVm hvm h2
  exact ⟨c, k', i, f, a, cell, by rw [hvm.findClass]; exact h1, hi', h3, by rw [he]; exact h4, h5, h6, h7, h8, by rw [he]; exact h9, h10⟩
theorem vx_L.kept {C n d : String} {A : Nat → Prop} {U : State} {H H1 : Heap} (h : vx_L C n d A U H) (hq : ∀ a : Nat, a < H.size → ¬ A a → H1[a]? = H[a]?) : vx_L C n d A U H1 := by
  obtain ⟨c, k, i, f, a, cell, h1, h2, h3, h4, h5, h6, h7, h8, h9, h10⟩ := h
  exact ⟨c, k, i, f, a, cell, h1, h2, h3, h4, by rw [hq a (Array.getElem?_eq_some_iff.mp h5).1 h10]; exact h5, h6, h7, h8, h9, h10⟩
theorem vx_L.narrow {C n d : String} {A B : Nat → Prop} {U : State} {H : Heap} (h : vx_L C n d A U H) (hAB : ∀ q, B q → A q) : vx_L C n d B U H := by
  obtain ⟨c, k, i, f, a, cell, h1, h2, h3, h4, h5, h6, h7, h8, h9, h10⟩ := h
  exact ⟨c, k, i, f, a, cell, h1, h2, h3, h4, h5, h6, h7, h8, h9, fun z => h10 (hAB _ z)⟩
theorem vx_L.word {C n d : String} {A : Nat → Prop} {s : State} {args : Array Value} (h : vx_L C n d A s s.heap) : (Cond.laysStatic C n d).before args s = true := by
  obtain ⟨c, k, i, f, a, cell, h1, h2, h3, h4, h5, h6, h7, h8, h9, -⟩ := h
  show (Cond.laysStatic C n d).holds args s none s [] = true
  exact Cond.laysStatic_of h1 h2 h3 h4 h5 h6 h7 h8 h9
/-- .. and what it holds: null or some reference -/
def vx_Zq (C n d : String) (A : Nat → Prop) (U : State) (H : Heap) : Prop := va_Zq C n d A U H ∧ vx_L C n d A U H
theorem vx_Zq.moved {C n d : String} {A : Nat → Prop} {u U : State} {H : Heap} (hvm : u.vm.Alike U.vm) (h : vx_Zq C n d A u H) : vx_Zq C n d A U H := ⟨va_Zq.moved hvm h.1, vx_L.moved hvm h.2⟩
theorem vx_Zq.kept {C n d : String} {A : Nat → Prop} {U : State} {H H1 : Heap} (h : vx_Zq C n d A U H) (hq : ∀ a : Nat, a < H.size → ¬ A a → H1[a]? = H[a]?) : vx_Zq C n d A U H1 := ⟨va_Zq.kept h.1 hq, vx_L.kept h.2 hq⟩
theorem vx_Zq.narrow {C n d : String} {A B : Nat → Prop} {U : State} {H : Heap} (h : vx_Zq C n d A U H) (hAB : ∀ q, B q → A q) : vx_Zq C n d B U H := ⟨va_Zq.narrow h.1 hAB, vx_L.narrow h.2 hAB⟩
theorem vx_Zqof {args : Array Value} {s : State} {C n d : String} {A : Nat → Prop} (hl : (Cond.laysStatic C n d).before args s = true) (hini : (Cond.initialized C).before args s = true) (h : (Cond.isRef (.static C n d)).before args s = true) (hA : ∀ a : Nat, a < s.heap.size → ¬ A a) : vx_Zq C n d A s s.heap := by
  refine ⟨va_Zqof hl hini h hA, ?_⟩
  obtain ⟨c, k, i, f, a, cell, h1, h2, h3, h4, h5, h6, h7, h8, h9⟩ := Cond.laysStatic_spec hl
  exact ⟨c, k, i, f, a, cell, h1, h2, h3, h4, h5, h6, h7, h8, h9, hA a (Array.getElem?_eq_some_iff.mp h5).1⟩
theorem vx_isRef {C n d : String} {v : Value} {A : Nat → Prop} {s : State} {args : Array Value} (h : va_Z C n d v A s s.heap) (hv : v.isRef = true) : (Cond.isRef (.static C n d)).before args s = true := by
  obtain ⟨cf, kf, fi, f, a, cell, h1, h2, h3, h4, h5, h6, h7, -⟩ := h
  have he : (Term.static C n d).eval args s none [] s = some v := by
    simp [Term.eval, State.fieldNamed?, h1, h2, h4, h5, h6, h7]
  simp only [Cond.before, Cond.holds, Cond.value, he]
  cases v <;> simp_all [Value.isRef]
theorem vx_isRefq {C n d : String} {A : Nat → Prop} {s : State} {args : Array Value} (h : va_Zq C n d A s s.heap) : (Cond.isRef (.static C n d)).before args s = true := by
  rcases h with h | ⟨t, h⟩
  · exact vx_isRef h rfl
  · exact vx_isRef h rfl
/-- the same frame, seen from here: as if the method were called anew in this heap -/
theorem vx_rebase {T : State} (X : Stand p l e R s m args below meth c T locs cells slots) {R' : Room} (hf : R'.frames ≤ R.frames) (hl : R'.locals ≤ R.locals) (hc : cells + R'.cells ≤ R.cells) (hs : slots + R'.slots ≤ R.slots) :
    Stand p l e R' ((T.setVm s.vm).setFrames (.invoking m args :: below)) m args below meth c T [] 0 0 := by
  have htop : (T.setVm s.vm).topJava?.isSome := X.here.top
  have hF : ((T.setVm s.vm).setFrames (.invoking m args :: below)).frames = .invoking m args :: below := State.frames_setFrames _ (State.cur_lt_of_top htop)
  obtain ⟨g₀, hg0⟩ := Option.isSome_iff_exists.mp htop
  obtain ⟨r, hr⟩ := State.topJava?_eq_some.mp hg0
  have hl9 : e.platform.stackLimits (T.setVm s.vm).me = e.platform.stackLimits s.me := X.limits
  have hb9 : (T.setVm s.vm).me.stackBytes = s.me.stackBytes := X.bytes
  refine ⟨X.admits, X.cas, X.clock, hF, ?_, X.hears, X.method, X.code, X.here, X.tail, X.warmed, ?_, ?_, ?_⟩
  · have h := X.room
    have hU : ((T.setVm s.vm).setFrames (.invoking m args :: below)).localsInUse = s.localsInUse := by
      rw [State.localsInUse_invoking hF (meth := meth) (c := c) X.method X.code, State.localsInUse_invoking X.frames X.method X.code]
    simp only [State.hasRoom, Bool.and_eq_true, decide_eq_true_eq] at h ⊢
    obtain ⟨⟨⟨⟨h1, h2, h3, h4, h5, h6⟩, h7⟩, h8⟩, h9⟩ := h
    rw [X.frames, List.length_cons] at h2 h3
    have q1 := X.heapSize
    have q2 := X.used
    simp only [hF, hU, List.length_cons, State.stackLimits_setFrames, State.stackBytes_setFrames, hl9, hb9]
    refine ⟨⟨⟨⟨by omega, by omega, by omega, by omega, by omega, h6⟩, ?_⟩, ?_⟩, X.book⟩
    · show T.heap.size + R'.cells ≤ e.platform.maxCells
      omega
    · show T.slotsUsed + R'.slots ≤ e.platform.maxSlots
      omega
  · rw [State.stackLimits_setFrames]; rfl
  · rw [State.stackBytes_setFrames]; rfl
  · refine ⟨?_, Nat.le_refl _, Nat.le_refl _, ?_, ?_, fun a c9 h9 => ⟨c9, h9, rfl, rfl, fun _ _ => rfl⟩⟩
    · obtain ⟨t, ht, -⟩ := State.frames_cons hr
      show T.setVm s.vm = { ((T.setVm s.vm).setFrames (.invoking m args :: below)).setFrames (T.setVm s.vm).frames with heap := T.heap, slotsUsed := T.slotsUsed }
      rw [State.setFrames_setFrames, State.setFrames_self ht]
      rfl
    · show T.slotsUsed = T.slotsUsed + ((T.heap.toList.drop T.heap.size).map (·.slots.size)).sum
      rw [List.drop_eq_nil_of_le (Nat.le_of_eq Array.length_toList)]
      rfl
    · show ((T.heap.toList.drop T.heap.size).map (·.slots.size)).sum ≤ 0
      rw [List.drop_eq_nil_of_le (Nat.le_of_eq Array.length_toList)]
      exact Nat.le_refl _
/-- 'throw new E()': new; dup; invokespecial; athrow -/
theorem vx_throw0 {cc : ByteArray} {pc : Nat} (hexec : p.tables.exec = Jvm.exec) (hb : c.code = cc) (hl : l.stackTraces = false) {own cls : String} {names : List String} {ik ic mc ms : Nat} {A : Nat → Prop}
    (hown : s.vm.findClass own = some m.cls) (hcls : Bundle.fit cls = true) (hnames : ∀ n ∈ names, Bundle.fit n = true)
    (hk : (Cond.classLink own ik cls).before args s = true) (hini : (Cond.initialized cls).before args s = true) (hat : ∀ w ∈ vx_at0 own ic cls names, w.before args s = true)
    (hgood : ∀ w ∈ Cond.classLink own ik cls :: Cond.initialized cls :: vx_at0 own ic cls names, vx_ot w = true)
    (hU : vx_Zq Bundle.tN "UNASSIGNED_STACK" Bundle.steD A s s.heap) (hN : vx_Zq Bundle.tN "SUPPRESSED_SENTINEL" Bundle.listD A s s.heap) (hS : va_S A s.heap H locs) (hsize : ls.size = c.maxLocals)
    (d0 : decode cc pc = .ok (.new ik, 3)) (d3 : decode cc (pc + 3) = .ok (.dup, 1)) (d4 : decode cc (pc + 4) = .ok (.invokespecial ic, 3)) (d7 : decode cc (pc + 7) = .ok (.athrow, 1))
    (hout : ∀ x ∈ c.exceptionTable.toList, covers x (pc + 7) = false)
    (hRframes : names.length + 3 < R.frames) (hRlocals : (rest.map fun v => v.category).sum + (13 * (names.length + 1) + 42) ≤ R.locals) (hRcells : cells + 1 ≤ R.cells) (hRslots : slots + 6 ≤ R.slots) (hlocks : meth.locks = false)
    (hx : ∀ t : State, s.vm.Alike t.vm → H.size ≤ t.heap.size → (∀ q : Nat, q < H.size → t.heap[q]? = H[q]?) → XC cls s t)
    (hf : ∀ z ∈ locs, free z.base) (hc : cells + 1 ≤ mc) (hs : slots + 6 ≤ ms) :
    W p l e R s m args below meth c H locs cells slots (vx_MQ below Qc XC args s mc ms free) (F0 m pc ls rest) := by
  intro T hT X
  have htr : e.platform.stackTraces = false := (show e.platform.stackTraces = l.stackTraces by rw [X.admits.platform]).trans hl
  have Y := vx_rebase X (R' := { frames := R.frames, locals := R.locals, cells := 1, slots := 6 }) (Nat.le_refl _) (Nat.le_refl _) hRcells hRslots
  obtain ⟨s', hA⟩ : ∃ z, z = (T.setVm s.vm).setFrames (.invoking m args :: below) := ⟨_, rfl⟩
  rw [← hA] at Y
  have hvm : s'.vm = s.vm := by rw [hA]; rfl
  have hhp : s'.heap = H := by rw [hA]; exact hT
  have hW0 : s.WarmedH s'.vm := by rw [hvm]; exact State.WarmedH.refl s
  have hat' : ∀ w ∈ vx_at0 own ic cls names, w.before args s' = true := fun w hw => vx_ot_at hW0 hvm.symm (hgood w (List.mem_cons_of_mem _ (List.mem_cons_of_mem _ hw))) (hat w hw)
  have hk' : (Cond.classLink own ik cls).before args s' = true := vx_ot_at hW0 hvm.symm (hgood _ List.mem_cons_self) hk
  have hini' : (Cond.initialized cls).before args s' = true := vx_ot_at hW0 hvm.symm (hgood _ (List.mem_cons_of_mem _ List.mem_cons_self)) hini
  have hU' : vx_Zq Bundle.tN "UNASSIGNED_STACK" Bundle.steD A s' s'.heap := by rw [hhp]; exact vx_Zq.moved hW0.alike (hU.kept hS.2.1)
  have hN' : vx_Zq Bundle.tN "SUPPRESSED_SENTINEL" Bundle.listD A s' s'.heap := by rw [hhp]; exact vx_Zq.moved hW0.alike (hN.kept hS.2.1)
  have h : ∀ w ∈ Bundle.ownAtoms0 own ic cls names, w.before args s' = true := vx_own hat' (vx_isRefq hU'.1) (vx_isRefq hN'.1) hU'.2.word hN'.2.word
  have hown' : s'.vm.findClass own = some m.cls := by rw [hvm]; exact hown
  have hins : (Cond.instantiable cls 6).before args s' = true := h _ (by simp [Bundle.ownAtoms0])
  obtain ⟨vm₁, cX, kX, hfX, hkX, -, -, X₁, st1⟩ := Y.newCold hexec (own := own) (C := cls) (index := ik) (n := 6) hown' hk' hins hini'
    (g := F0 m pc ls rest) rfl (by rw [hb]; exact d0) (Nat.le_refl _) (Nat.le_refl _)
  generalize hT1 : (T.setVm vm₁).pushCell { cls := cX, slots := kX.instanceTypes.map defaultValue, vm := .none } = T1 at X₁ st1
  have hcat : (Value.ref T.heap.size).category = 1 := rfl
  have hcellA : T1.heap[T.heap.size]? = some (freshCell cX kX) := by rw [← hT1]; exact State.heap_pushCell_size _ _
  have d3' : decode c.code (pc + 3) = .ok (.dup, 1) := by rw [hb]; exact d3
  obtain ⟨U, hsteps, hrun, hend, hW, hsame, ce, hce, hO⟩ := X₁.ctorThrow0 hexec htr (own := own) (cls := cls) (names := names) (ic := ic) hown' hcls hnames h (fun x hx => nomatch hx) hfX hkX hcellA (by rw [hhp, hT]; exact Nat.le_refl _)
    (g := { method := m, pc := pc + 4, locals := ls, stack := .ref T.heap.size :: .ref T.heap.size :: rest, locked := none }) rfl hsize rfl rfl (rest := rest) rfl
    (by rw [hb]; exact d4) (by rw [hb]; exact d7) hout hRframes (by simp only [List.map_cons, List.sum_cons, hcat]; omega) hlocks
  obtain ⟨f1, f2⟩ := vx_frame hsame
  rw [hhp] at f1 f2
  have hWs : s.WarmedH U.vm := State.WarmedH.trans hW0 hW
  have hcl : s.vm.findClass cls = some ce.cls := by
    have h9 := hO.cls
    rw [hvm] at h9
    exact h9
  have hall : s.sameButNew ({ U with vm := s.vm } : State) locs mc ms := by
    subst hA
    obtain ⟨e1, e2⟩ := hsame
    rw [State.setFrames_setFrames] at e1
    have h2 : (T.setVm s.vm).sameButNew ({ U with vm := s.vm } : State) [] (0 + 1) (0 + 6) := ⟨e1, e2⟩
    have h3 := X.same.trans h2
    rw [List.append_nil] at h3
    exact h3.mono hc hs
  refine ⟨U, ?_, .threw T.heap.size, hrun, hend, Or.inr ⟨T.heap.size, rfl, cls, ce, locs, hx U hWs.alike f1 (fun q hq => f2 q hq (fun z hz => nomatch hz)), hce, hO.vm, hcl, hWs, hall, hf⟩⟩
  refine st1 _ ?_
  show Steps p.tables e below (T1.setTop { method := m, pc := pc + 3, locals := ls, stack := .ref T.heap.size :: rest, locked := none }) _
  jvm_step X₁.here [X₁.here.top, hexec, d3', Value.category]
  exact hsteps
/-- 'throw new E("text")': new; dup; ldc; invokespecial; athrow -/
theorem vx_throwS {cc : ByteArray} {pc : Nat} (hexec : p.tables.exec = Jvm.exec) (hb : c.code = cc) (hl : l.stackTraces = false) {own cls text : String} {names : List String} {ik is ic mc ms sa : Nat} {A : Nat → Prop}
    (hown : s.vm.findClass own = some m.cls) (hcls : Bundle.fit cls = true) (hnames : ∀ n ∈ names, Bundle.fit n = true)
    (hk : (Cond.classLink own ik cls).before args s = true) (hini : (Cond.initialized cls).before args s = true) (hstr : vk_R own is text sa s) (hat : ∀ w ∈ vx_atS own ic cls names, w.before args s = true)
    (hgood : ∀ w ∈ Cond.classLink own ik cls :: Cond.initialized cls :: vx_atS own ic cls names, vx_ot w = true)
    (hU : vx_Zq Bundle.tN "UNASSIGNED_STACK" Bundle.steD A s s.heap) (hN : vx_Zq Bundle.tN "SUPPRESSED_SENTINEL" Bundle.listD A s s.heap) (hS : va_S A s.heap H locs) (hsize : ls.size = c.maxLocals)
    (d0 : decode cc pc = .ok (.new ik, 3)) (d3 : decode cc (pc + 3) = .ok (.dup, 1)) (d4 : decode cc (pc + 4) = .ok (.ldc is, 2)) (d6 : decode cc (pc + 6) = .ok (.invokespecial ic, 3)) (d9 : decode cc (pc + 9) = .ok (.athrow, 1))
    (hout : ∀ x ∈ c.exceptionTable.toList, covers x (pc + 9) = false)
    (hRframes : names.length + 3 < R.frames) (hRlocals : (rest.map fun v => v.category).sum + (13 * (names.length + 1) + 43) ≤ R.locals) (hRcells : cells + 1 ≤ R.cells) (hRslots : slots + 6 ≤ R.slots) (hlocks : meth.locks = false)
    (hx : ∀ t : State, s.vm.Alike t.vm → H.size ≤ t.heap.size → (∀ q : Nat, q < H.size → t.heap[q]? = H[q]?) → XC cls s t)
    (hf : ∀ z ∈ locs, free z.base) (hc : cells + 1 ≤ mc) (hs : slots + 6 ≤ ms) :
    W p l e R s m args below meth c H locs cells slots (vx_MQ below Qc XC args s mc ms free) (F0 m pc ls rest) := by
  intro T hT X
  have htr : e.platform.stackTraces = false := (show e.platform.stackTraces = l.stackTraces by rw [X.admits.platform]).trans hl
  have Y := vx_rebase X (R' := { frames := R.frames, locals := R.locals, cells := 1, slots := 6 }) (Nat.le_refl _) (Nat.le_refl _) hRcells hRslots
  obtain ⟨s', hA⟩ : ∃ z, z = (T.setVm s.vm).setFrames (.invoking m args :: below) := ⟨_, rfl⟩
  rw [← hA] at Y
  have hvm : s'.vm = s.vm := by rw [hA]; rfl
  have hhp : s'.heap = H := by rw [hA]; exact hT
  have hW0 : s.WarmedH s'.vm := by rw [hvm]; exact State.WarmedH.refl s
  have hat' : ∀ w ∈ vx_atS own ic cls names, w.before args s' = true := fun w hw => vx_ot_at hW0 hvm.symm (hgood w (List.mem_cons_of_mem _ (List.mem_cons_of_mem _ hw))) (hat w hw)
  have hk' : (Cond.classLink own ik cls).before args s' = true := vx_ot_at hW0 hvm.symm (hgood _ List.mem_cons_self) hk
  have hini' : (Cond.initialized cls).before args s' = true := vx_ot_at hW0 hvm.symm (hgood _ (List.mem_cons_of_mem _ List.mem_cons_self)) hini
  have hU' : vx_Zq Bundle.tN "UNASSIGNED_STACK" Bundle.steD A s' s'.heap := by rw [hhp]; exact vx_Zq.moved hW0.alike (hU.kept hS.2.1)
  have hN' : vx_Zq Bundle.tN "SUPPRESSED_SENTINEL" Bundle.listD A s' s'.heap := by rw [hhp]; exact vx_Zq.moved hW0.alike (hN.kept hS.2.1)
  have h : ∀ w ∈ Bundle.ownAtoms own ic cls names, w.before args s' = true := vx_own hat' (vx_isRefq hU'.1) (vx_isRefq hN'.1) hU'.2.word hN'.2.word
  have hown' : s'.vm.findClass own = some m.cls := by rw [hvm]; exact hown
  have hins : (Cond.instantiable cls 6).before args s' = true := h _ (by simp [Bundle.ownAtoms])
  obtain ⟨vm₁, cX, kX, hfX, hkX, -, -, X₁, st1⟩ := Y.newCold hexec (own := own) (C := cls) (index := ik) (n := 6) hown' hk' hins hini'
    (g := F0 m pc ls rest) rfl (by rw [hb]; exact d0) (Nat.le_refl _) (Nat.le_refl _)
  generalize hT1 : (T.setVm vm₁).pushCell { cls := cX, slots := kX.instanceTypes.map defaultValue, vm := .none } = T1 at X₁ st1
  have hcat : (Value.ref T.heap.size).category = 1 := rfl
  have hcellA : T1.heap[T.heap.size]? = some (freshCell cX kX) := by rw [← hT1]; exact State.heap_pushCell_size _ _
  have d3' : decode c.code (pc + 3) = .ok (.dup, 1) := by rw [hb]; exact d3
  have d4' : decode c.code (pc + 4) = .ok (.ldc is, 2) := by rw [hb]; exact d4
  have hstr' : vk_R own is text sa s' := vk_R.warm hW0 hstr
  obtain ⟨U, hsteps, hrun, hend, hW, hsame, ce, hce, hO⟩ := X₁.ctorThrowS hexec htr (own := own) (cls := cls) (names := names) (ic := ic) hown' hcls hnames h (fun x hx => nomatch hx) hfX hkX hcellA (by rw [hhp, hT]; exact Nat.le_refl _) (msg := .ref sa) rfl
    (g := { method := m, pc := pc + 6, locals := ls, stack := .ref sa :: .ref T.heap.size :: .ref T.heap.size :: rest, locked := none }) rfl hsize rfl rfl (rest := rest) rfl
    (by rw [hb]; exact d6) (by rw [hb]; exact d9) hout hRframes (by simp only [List.map_cons, List.sum_cons, hcat]; omega) hlocks
  obtain ⟨f1, f2⟩ := vx_frame hsame
  rw [hhp] at f1 f2
  have hWs : s.WarmedH U.vm := State.WarmedH.trans hW0 hW
  have hcl : s.vm.findClass cls = some ce.cls := by
    have h9 := hO.cls
    rw [hvm] at h9
    exact h9
  have hall : s.sameButNew ({ U with vm := s.vm } : State) locs mc ms := by
    subst hA
    obtain ⟨e1, e2⟩ := hsame
    rw [State.setFrames_setFrames] at e1
    have h2 : (T.setVm s.vm).sameButNew ({ U with vm := s.vm } : State) [] (0 + 1) (0 + 6) := ⟨e1, e2⟩
    have h3 := X.same.trans h2
    rw [List.append_nil] at h3
    exact h3.mono hc hs
  refine ⟨U, ?_, .threw T.heap.size, hrun, hend, Or.inr ⟨T.heap.size, rfl, cls, ce, locs, hx U hWs.alike f1 (fun q hq => f2 q hq (fun z hz => nomatch hz)), hce, hO.vm, hcl, hWs, hall, hf⟩⟩
  refine st1 _ ?_
  show Steps p.tables e below (T1.setTop { method := m, pc := pc + 3, locals := ls, stack := .ref T.heap.size :: rest, locked := none }) _
  jvm_step X₁.here [X₁.here.top, hexec, d3', Value.category]
  exact X₁.ldcString hexec (own := own) (text := text) (index := is) (a := sa) hown' hstr'.1 hstr'.2
    (g := { method := m, pc := pc + 4, locals := ls, stack := .ref T.heap.size :: .ref T.heap.size :: rest, locked := none }) rfl d4' _ hsteps
/-- 'throw new E("text")', the text by a wide index -/
theorem vx_throwSW {cc : ByteArray} {pc : Nat} (hexec : p.tables.exec = Jvm.exec) (hb : c.code = cc) (hl : l.stackTraces = false) {own cls text : String} {names : List String} {ik is ic mc ms sa : Nat} {A : Nat → Prop}
    (hown : s.vm.findClass own = some m.cls) (hcls : Bundle.fit cls = true) (hnames : ∀ n ∈ names, Bundle.fit n = true)
    (hk : (Cond.classLink own ik cls).before args s = true) (hini : (Cond.initialized cls).before args s = true) (hstr : vk_R own is text sa s) (hat : ∀ w ∈ vx_atS own ic cls names, w.before args s = true)
    (hgood : ∀ w ∈ Cond.classLink own ik cls :: Cond.initialized cls :: vx_atS own ic cls names, vx_ot w = true)
    (hU : vx_Zq Bundle.tN "UNASSIGNED_STACK" Bundle.steD A s s.heap) (hN : vx_Zq Bundle.tN "SUPPRESSED_SENTINEL" Bundle.listD A s s.heap) (hS : va_S A s.heap H locs) (hsize : ls.size = c.maxLocals)
    (d0 : decode cc pc = .ok (.new ik, 3)) (d3 : decode cc (pc + 3) = .ok (.dup, 1)) (d4 : decode cc (pc + 4) = .ok (.ldc_w is, 3)) (d7 : decode cc (pc + 7) = .ok (.invokespecial ic, 3)) (d10 : decode cc (pc + 10) = .ok (.athrow, 1))
    (hout : ∀ x ∈ c.exceptionTable.toList, covers x (pc + 10) = false)
    (hRframes : names.length + 3 < R.frames) (hRlocals : (rest.map fun v => v.category).sum + (13 * (names.length + 1) + 43) ≤ R.locals) (hRcells : cells + 1 ≤ R.cells) (hRslots : slots + 6 ≤ R.slots) (hlocks : meth.locks = false)
    (hx : ∀ t : State, s.vm.Alike t.vm → H.size ≤ t.heap.size → (∀ q : Nat, q < H.size → t.heap[q]? = H[q]?) → XC cls s t)
    (hf : ∀ z ∈ locs, free z.base) (hc : cells + 1 ≤ mc) (hs : slots + 6 ≤ ms) :
    W p l e R s m args below meth c H locs cells slots (vx_MQ below Qc XC args s mc ms free) (F0 m pc ls rest) := by
  intro T hT X
  have htr : e.platform.stackTraces = false := (show e.platform.stackTraces = l.stackTraces by rw [X.admits.platform]).trans hl
  have Y := vx_rebase X (R' := { frames := R.frames, locals := R.locals, cells := 1, slots := 6 }) (Nat.le_refl _) (Nat.le_refl _) hRcells hRslots
  obtain ⟨s', hA⟩ : ∃ z, z = (T.setVm s.vm).setFrames (.invoking m args :: below) := ⟨_, rfl⟩
  rw [← hA] at Y
  have hvm : s'.vm = s.vm := by rw [hA]; rfl
  have hhp : s'.heap = H := by rw [hA]; exact hT
  have hW0 : s.WarmedH s'.vm := by rw [hvm]; exact State.WarmedH.refl s
  have hat' : ∀ w ∈ vx_atS own ic cls names, w.before args s' = true := fun w hw => vx_ot_at hW0 hvm.symm (hgood w (List.mem_cons_of_mem _ (List.mem_cons_of_mem _ hw))) (hat w hw)
  have hk' : (Cond.classLink own ik cls).before args s' = true := vx_ot_at hW0 hvm.symm (hgood _ List.mem_cons_self) hk
  have hini' : (Cond.initialized cls).before args s' = true := vx_ot_at hW0 hvm.symm (hgood _ (List.mem_cons_of_mem _ List.mem_cons_self)) hini
  have hU' : vx_Zq Bundle.tN "UNASSIGNED_STACK" Bundle.steD A s' s'.heap := by rw [hhp]; exact vx_Zq.moved hW0.alike (hU.kept hS.2.1)
  have hN' : vx_Zq Bundle.tN "SUPPRESSED_SENTINEL" Bundle.listD A s' s'.heap := by rw [hhp]; exact vx_Zq.moved hW0.alike (hN.kept hS.2.1)
  have h : ∀ w ∈ Bundle.ownAtoms own ic cls names, w.before args s' = true := vx_own hat' (vx_isRefq hU'.1) (vx_isRefq hN'.1) hU'.2.word hN'.2.word
  have hown' : s'.vm.findClass own = some m.cls := by rw [hvm]; exact hown
  have hins : (Cond.instantiable cls 6).before args s' = true := h _ (by simp [Bundle.ownAtoms])
  obtain ⟨vm₁, cX, kX, hfX, hkX, -, -, X₁, st1⟩ := Y.newCold hexec (own := own) (C := cls) (index := ik) (n := 6) hown' hk' hins hini'
    (g := F0 m pc ls rest) rfl (by rw [hb]; exact d0) (Nat.le_refl _) (Nat.le_refl _)
  generalize hT1 : (T.setVm vm₁).pushCell { cls := cX, slots := kX.instanceTypes.map defaultValue, vm := .none } = T1 at X₁ st1
  have hcat : (Value.ref T.heap.size).category = 1 := rfl
  have hcellA : T1.heap[T.heap.size]? = some (freshCell cX kX) := by rw [← hT1]; exact State.heap_pushCell_size _ _
  have d3' : decode c.code (pc + 3) = .ok (.dup, 1) := by rw [hb]; exact d3
  have d4' : decode c.code (pc + 4) = .ok (.ldc_w is, 3) := by rw [hb]; exact d4
  have hstr' : vk_R own is text sa s' := vk_R.warm hW0 hstr
  obtain ⟨U, hsteps, hrun, hend, hW, hsame, ce, hce, hO⟩ := X₁.ctorThrowS hexec htr (own := own) (cls := cls) (names := names) (ic := ic) hown' hcls hnames h (fun x hx => nomatch hx) hfX hkX hcellA (by rw [hhp, hT]; exact Nat.le_refl _) (msg := .ref sa) rfl
    (g := { method := m, pc := pc + 7, locals := ls, stack := .ref sa :: .ref T.heap.size :: .ref T.heap.size :: rest, locked := none }) rfl hsize rfl rfl (rest := rest) rfl
    (by rw [hb]; exact d7) (by rw [hb]; exact d10) hout hRframes (by simp only [List.map_cons, List.sum_cons, hcat]; omega) hlocks
  obtain ⟨f1, f2⟩ := vx_frame hsame
  rw [hhp] at f1 f2
  have hWs : s.WarmedH U.vm := State.WarmedH.trans hW0 hW
  have hcl : s.vm.findClass cls = some ce.cls := by
    have h9 := hO.cls
    rw [hvm] at h9
    exact h9
  have hall : s.sameButNew ({ U with vm := s.vm } : State) locs mc ms := by
    subst hA
    obtain ⟨e1, e2⟩ := hsame
    rw [State.setFrames_setFrames] at e1
    have h2 : (T.setVm s.vm).sameButNew ({ U with vm := s.vm } : State) [] (0 + 1) (0 + 6) := ⟨e1, e2⟩
    have h3 := X.same.trans h2
    rw [List.append_nil] at h3
    exact h3.mono hc hs
  refine ⟨U, ?_, .threw T.heap.size, hrun, hend, Or.inr ⟨T.heap.size, rfl, cls, ce, locs, hx U hWs.alike f1 (fun q hq => f2 q hq (fun z hz => nomatch hz)), hce, hO.vm, hcl, hWs, hall, hf⟩⟩
  refine st1 _ ?_
  show Steps p.tables e below (T1.setTop { method := m, pc := pc + 3, locals := ls, stack := .ref T.heap.size :: rest, locked := none }) _
  jvm_step X₁.here [X₁.here.top, hexec, d3', Value.category]
  exact X₁.ldcStringW hexec (own := own) (text := text) (index := is) (a := sa) hown' hstr'.1 hstr'.2
    (g := { method := m, pc := pc + 4, locals := ls, stack := .ref T.heap.size :: .ref T.heap.size :: rest, locked := none }) rfl d4' _ hsteps
end Ends
section Bodies
variable {l : Launch}
theorem vx_ofW {y : MethodName} {ws ws' : List Cond} {rm : Room} {Pc : Array Value → State → Prop} {Qc : Array Value → State → Outcome → State → Prop} {XC : String → State → State → Prop} {mc ms : Nat} {free : Addr → Prop} {cc : ByteArray} {maxL : Nat} {ret : Option FieldType}
    (hy : plainName y.cls = true) (hw : ws = Cond.code y cc maxL ret :: ws')
    (body : ∀ p e s m args below meth c s₁, BodyLoose p l y (headSpec ws rm) cc maxL ret e s m args below meth c s₁ → c.maxLocals = maxL → (∀ x ∈ c.exceptionTable.toList, False) → Pc args s →
      W p l e (headSpec ws rm).room s m args below meth c s.heap [] 0 0 (vx_MQ below Qc XC args s mc ms free) (entryFrame m args maxL)) : vx_Met l y ws rm Pc Qc XC mc ms free := by
  refine MetFree.of_bodyS (code := cc) (maxLocals := maxL) (ret := ret) hy ?_ ?_
  · intro args s m h hn
    obtain ⟨meth, c, h1, h2, h3, h4, h5, h6, -, -⟩ := Cond.code_spec hn (atoms_spec (ws := ws) h _ (by rw [hw]; exact List.mem_cons_self))
    exact ⟨meth, c, h1, h2, h3, h4, h5, h6⟩
  · intro p e s m args below meth c s₁ B hml hP _
    have hh0 : s₁.heap = s.heap := by rw [B.state]; rfl
    have ht : ∀ x ∈ c.exceptionTable.toList, False := by
      obtain ⟨meth9, c9, h1, h2, -, -, -, -, h7, -⟩ := Cond.code_spec B.named (atoms_spec (ws := ws) B.pre _ (by rw [hw]; exact List.mem_cons_self))
      cases Option.some.inj (h1.symm.trans B.method)
      cases Option.some.inj (h2.symm.trans (Stand.of_body B).code)
      intro x hx
      rw [Array.isEmpty_iff.mp h7] at hx
      cases hx
    obtain ⟨t, a1, o, b1, b2, b3⟩ := body p e s m args below meth c s₁ B hml ht hP s₁ hh0 (Stand.of_body B)
    exact ⟨t, o, a1, b1, b2, b3⟩
/-- the table of a body with handlers -/
theorem vx_table {p : Program} {x y : MethodName} {S : Spec} {cc bytes : ByteArray} {maxL maxL' : Nat} {ret ret' : Option FieldType} {e : Env} {s s₁ : State} {m : MethodId} {args : Array Value} {below : List Frame} {meth : Method} {c : Code} {hh : List (Nat × Nat × Nat × Nat)}
    (B : BodyLoose p l y S cc maxL ret e s m args below meth c s₁) (h : (Cond.codeWith y bytes maxL' ret' hh).before args s = true) : c.exceptionTable.toList = tableOf hh := by
  obtain ⟨m9, meth9, c9, hn9, h1, h2, -, -, h6, -⟩ := Cond.codeWith_spec h
  cases Option.some.inj (hn9.symm.trans B.named)
  cases Option.some.inj (h1.symm.trans B.method)
  cases Option.some.inj (h2.symm.trans (Stand.of_body B).code)
  rw [← h6, table_eq]
end Bodies
end VXA
/-! ===== END ===== -/
/-! ===== BEGIN a static call of a method with an exception table ===== -/
section VXS
variable {p : Program} {l : Launch} {e : Env} {R : Room} {s : State} {m : MethodId} {args : Array Value} {below : List Frame} {meth : Method} {c : Code} {T : State} {H : Heap} {locs : List Loc} {cells slots : Nat}
abbrev vx_CSW (R : Room) (s : State) (args : Array Value) (own : String) (index : Nat) (y : MethodName) (bytes : ByteArray) (maxL : Nat) (ret : Option FieldType) (hh : List (Nat × Nat × Nat × Nat)) (ws : List Cond) (rm : Room) (mc ms n : Nat) : Prop :=
  (rm.cells = mc ∧ rm.slots = ms ∧ rm.frames + 1 ≤ R.frames ∧ 8 + (maxL + 11) + rm.locals ≤ R.locals ∧ (∀ w ∈ ws, ∀ (a' : Array Value) (U : State), s.WarmedH U.vm → w.before a' U = true) ∧ Cond.codeWith y bytes maxL ret hh ∈ ws) ∧
  (Cond.codeWith y bytes maxL ret hh).before args s = true ∧ (Cond.initialized y.cls).before args s = true ∧ (y.cls ≠ "java/lang/invoke/MethodHandle" ∧ y.cls ≠ "java/lang/invoke/VarHandle") ∧
  (∀ sig, parseMethodDescriptor y.desc = some sig → n = sig.parameters.length) ∧ (Cond.methodLink own index y).before args s = true ∧ (Cond.static y).before args s = true
theorem vx_cwSW {own : String} {index maxL mc ms : Nat} {y : MethodName} {bytes : ByteArray} {ret : Option FieldType} {hh : List (Nat × Nat × Nat × Nat)} {Ts ws ws' : List Cond} {rm : Room} (n : Nat) (ht : ∀ w ∈ Ts, w.before args s = true) (hT : GoodIn Ts (va_wsS own index y ws)) (hw : ws = Cond.codeWith y bytes maxL ret hh :: ws') (hrc : rm.cells = mc) (hrs : rm.slots = ms)
    (hd : y.cls ≠ "java/lang/invoke/MethodHandle" ∧ y.cls ≠ "java/lang/invoke/VarHandle" ∧ (parseMethodDescriptor y.desc).map (fun d => d.parameters.length) = some n) (hR : rm.frames + 1 ≤ R.frames ∧ 8 + (maxL + 11) + rm.locals ≤ R.locals) :
    vx_CSW R s args own index y bytes maxL ret hh ws rm mc ms n := by
  have ok : ∀ w ∈ va_wsS own index y ws, w.before args s = true := fun w h => ht w (hT w h).1
  have hG : GoodIn Ts ws := fun w h => hT w (by unfold va_wsS; exact List.mem_append_right _ h)
  have hc : Cond.codeWith y bytes maxL ret hh ∈ ws := by rw [hw]; exact List.mem_cons_self
  refine ⟨⟨hrc, hrs, hR.1, hR.2, pay_in ht hG, hc⟩, ht _ (hG _ hc).1, ok _ (by simp [va_wsS]), ⟨hd.1, hd.2.1⟩, fun sig h => ?_, ok _ (by simp [va_wsS]), ok _ (by simp [va_wsS])⟩
  have h2 := hd.2.2
  rw [h] at h2
  exact (Option.some.inj h2).symm
theorem vx_callSW (X : Stand p l e R s m args below meth c T locs cells slots) (hexec : p.tables.exec = Jvm.exec) {own : String} {index : Nat} {y : MethodName} {bytes : ByteArray} {maxL : Nat} {ret : Option FieldType} {hh : List (Nat × Nat × Nat × Nat)}
    (hown : s.vm.findClass own = some m.cls) (hlink : (Cond.methodLink own index y).before args s = true) (hstat : (Cond.static y).before args s = true) (hinit : (Cond.initialized y.cls).before args s = true)
    (hcode : (Cond.codeWith y bytes maxL ret hh).before args s = true) (hy : y.cls ≠ "java/lang/invoke/MethodHandle" ∧ y.cls ≠ "java/lang/invoke/VarHandle")
    {W9 : Nat} {Pre : Pt → Array Value → Prop} {Post : Pt → Array Value → Option Value → Pt → Prop} (hK : Back l R p e below s args y 3 W9 Pre Post)
    {g : JFrame} (hg : g.method = m) (hsize : g.locals.size = c.maxLocals) {argsL rest : List Value} (hlen : ∀ sig, parseMethodDescriptor y.desc = some sig → argsL.length = sig.parameters.length)
    (hstack : g.stack = argsL.reverse ++ rest) (hW : 2 * g.monitorRoom + (rest.map fun v => v.category).sum ≤ W9) (hdg : decode c.code g.pc = .ok (.invokestatic index, 3))
    (hpre : ∀ vm₁, s.WarmedH vm₁ → Pre ⟨T.setVm vm₁, locs, cells, slots⟩ argsL.toArray) :
    ∃ (v : Option Value) (vm₁ : Vm) (B : Pt), s.WarmedH vm₁ ∧ Stand p l e R s m args below meth c B.U B.locs B.cells B.slots ∧ Post ⟨T.setVm vm₁, locs, cells, slots⟩ argsL.toArray v B ∧
      ∀ target, Steps p.tables e below (B.U.setTop { g with pc := g.pc + 3, stack := v.toList ++ rest }) target → Steps p.tables e below (T.setTop g) target := by
  obtain ⟨mk, methM, cM, hnamed, hmethM, -, -, -, -, -, -, hsigM⟩ := Cond.codeWith_spec hcode
  have hstatic : methM.isStatic = true := Cond.static_spec hnamed hmethM hstat
  obtain ⟨kP, hkP, -⟩ := className_of_methodNamed hnamed
  have hinitP : kP.init = .initialized := Cond.initialized_spec (findClass_of_methodNamed hnamed) hkP hinit
  obtain ⟨vm₁, X₁, hstep₁⟩ := X.invokestatic hexec hown hlink hnamed hmethM hstatic hkP hinitP hy (g := g) hg (argsL := argsL) (rest := rest) (hlen _ hsigM) hstack hdg
  obtain ⟨v, B, X', hpost, hsteps⟩ := hK m meth c ⟨T.setVm vm₁, locs, cells, slots⟩ { g with stack := rest } (.invokestatic index) mk argsL.toArray X₁ hg hsize hdg hW (X₁.named hnamed) (hpre vm₁ X₁.warmed)
  exact ⟨v, vm₁, B, X₁.warmed, X', hpost, fun target h => hstep₁ _ fun acts => by rw [doInvoke_state]; exact hsteps.trans h⟩
theorem vx_runSW {y : MethodName} {bytes cc : ByteArray} {maxL nL mc ms n index : Nat} {ret : Option FieldType} {hh : List (Nat × Nat × Nat × Nat)} {ws : List Cond} {rm : Room} {Pc : Array Value → State → Prop} {Qc : Array Value → State → Outcome → State → Prop} {free : Addr → Prop} {Ts : List Cond} {own : String} {As rest : List Value} {g : JFrame}
    (S : CallFix p m c cc nL s args Ts own) (hM : Met l y ws rm Pc Qc mc ms free) (cw : vx_CSW R s args own index y bytes maxL ret hh ws rm mc ms n) (hp : PreS s H Pc As)
    (hg : g.method = m) (hn : As.length = n) (hsize : g.locals.size = nL) (hstack : g.stack = As.reverse ++ rest) (hW : 2 * g.monitorRoom + (rest.map fun v => v.category).sum ≤ 8) (hdg : decode cc g.pc = .ok (.invokestatic index, 3)) (hf : cells + mc ≤ R.cells ∧ slots + ms ≤ R.slots) :
    va_Run p l e R s m args below meth c H locs cells slots mc ms g rest (Qc As.toArray) (free) := by
  obtain ⟨⟨hrc, hrs, hfr, hlo, hws, hcw⟩, hcode, hini, hy, hlen, hl, hstt⟩ := cw
  have hK : Back l R p e below s args y 3 8 (PreOf R mc ms Pc) (PostOf Qc mc ms free) := va_backW (hh := hh) (bytes := bytes) (maxL := maxL) (ret := ret) hM hp.1 hrc hrs hfr hlo hws hcw (fun a' U hW => word_at hW (Or.inl (by first | rfl | simp [Cond.onTables, Cond.keeps, Cond.steady])) hini)
  obtain ⟨hx, hb, hml, ho, -⟩ := S
  intro T hT X
  obtain ⟨v, vm₁, ⟨U', l2, c2, s2⟩, hW₁, X', ⟨g', mk, t, L, e1, e2, hq, h1, hL, h2, h3⟩, st⟩ := vx_callSW X hx (hh := hh) (bytes := bytes) (maxL := maxL) (ret := ret) ho hl hstt hini hcode hy hK hg (hsize.trans hml.symm) (argsL := As) (rest := rest) (fun sig h => hn.trans (hlen sig h)) hstack hW (by rw [hb]; exact hdg)
    (fun vm₁ hW₁ => ⟨hf.1, hf.2, hp.2 (T.setVm vm₁) hT hW₁⟩)
  dsimp only [Pt.U, Pt.locs, Pt.cells, Pt.slots] at X' e1 e2 h1 h2 h3 st
  subst h1; subst h2; subst h3
  exact ⟨v, (T.setVm vm₁).calling g' mk As.toArray, t, U', L, hT, X', hL, e1, e2, hq, st⟩
/-- not caught here, past rows that name other classes: it goes on to the caller -/
theorem vx_outP {p : Program} {l : Launch} {e : Env} {R : Room} {s : State} {m : MethodId} {args : Array Value} {below : List Frame} {meth : Method} {c : Code} {H : Heap} {locs : List Loc} {cells slots : Nat} {free : Addr → Prop} {ls : Array Slot} {rest : List Value} {Qc : Array Value → State → Outcome → State → Prop} {XC : String → State → State → Prop}
    {pc : Nat} {own E : String} {ce : Cell} {q : Addr} {mc ms : Nat} (hown : s.vm.findClass own = some m.cls) (hlocks : meth.locks = false)
    (hpass : ∀ z ∈ c.exceptionTable.toList, covers z pc = false ∨ (z.catchType ≠ 0 ∧ ∃ nm : String, (Cond.classLink own z.catchType nm).before args s = true ∧ va_Nc E nm s)) (hcell : H[q]? = some ce) (hv : ce.vm = .none) (hcl : s.vm.findClass E = some ce.cls)
    (hx : ∀ t : State, t.heap = H → s.vm.Alike t.vm → XC E s t) (hf : ∀ z ∈ locs, free z.base) (hc : cells ≤ mc) (hs : slots ≤ ms) :
    vx_W p l e R s m args below meth c H locs cells slots (vx_MQ below Qc XC args s mc ms free) (F0 m pc ls rest) q := by
  intro T hT X
  have hpl : e.platform.magicAccessors = ({} : Platform).magicAccessors := by rw [X.admits.platform]
  obtain ⟨vm', hW', X', st⟩ := Jvm.Stand.outThrough X hlocks q (g := F0 m pc ls rest) rfl rfl rfl (cell := ce) (by rw [hT]; exact hcell) (by rw [hv]; rfl)
    (by obtain ⟨k9, h9, -⟩ := Vm.findClass_spec hcl; exact ⟨k9, h9⟩) (fun z hz => by
      rcases hpass z hz with h | ⟨hz0, nm, hl1, hn1⟩
      · exact Or.inl h
      · obtain ⟨c6, hc6, hcl6⟩ := Cond.classLink_spec hown hl1 e.platform hpl
        obtain ⟨a8, b8, h1, h2, h3⟩ := hn1
        cases Option.some.inj (h1.symm.trans hcl)
        cases Option.some.inj (h2.symm.trans hc6)
        exact Or.inr ⟨hz0, _, hcl6, h3⟩)
  obtain ⟨g₀, hfr⟩ := X'.frames_eq
  have hcell9 : ((T.setVm vm').setFrames (.throwing q :: below)).heap[q]? = some ce := by
    show T.heap[q]? = some ce
    rw [hT]; exact hcell
  have hend : Ended ((T.setVm vm').setFrames (.throwing q :: below)) below (.threw q) := State.frames_setFrames _ (State.cur_lt_of_frames hfr)
  refine ⟨(T.setVm vm').setFrames (.throwing q :: below), ?_, .threw q, X'.here.running, hend, Or.inr ⟨q, rfl, E, ce, locs, hx _ hT (X'.ends _).1.alike, hcell9, hv, hcl, (X'.ends _).1, (X'.ends _).2.mono hc hs, hf⟩⟩
  rw [X.pushThrowing_eq]
  exact st
/-- a thing of a world lies in the heap -/
theorem vx_lt {D : va_G} {cl : List vw_C} {ws : va_W} {H1 : Heap} (h : va_P D cl ws H1) {k : Nat} {q : Nat × va_E} (hk : ws[k]? = some q) : q.1 < H1.size := (h k q hk).lt
end VXS
/-! ===== END ===== -/
/-! ===== BEGIN methods with a table of their own: called by a name, returning or throwing ===== -/
section VXH
/-! vx_backW, vx_callVX, vx_callSX, vx_callVW, vx_runVW, vx_runVX, vx_runSX, vx_ofWH follow the same proofs as their sisters above (Free/Laws.lean, Shelf42/LK1.lean); vx_outP calls Shelf42/NT130.lean (outThrough). -/
section
variable {l : Launch} {R : Room} {p : Program} {e : Env} {below : List Frame} {s : State} {sargs : Array Value} {y : MethodName} {len W9 : Nat}
theorem vx_backW {ws : List Cond} {rm : Room} {Pc : Array Value → State → Prop} {Qc : Array Value → State → Outcome → State → Prop} {XC : String → State → State → Prop} {mc ms : Nat} {free : Addr → Prop} {bytes : ByteArray} {maxL : Nat} {ret : Option FieldType} {hh : List (Nat × Nat × Nat × Nat)}
    (hM : vx_Met l y ws rm Pc Qc XC mc ms free) (hblind : FrameBlind Pc) (hrc : rm.cells = mc) (hrs : rm.slots = ms)
    (hframes : rm.frames + 1 ≤ R.frames) (hlocals : W9 + (maxL + 11) + rm.locals ≤ R.locals)
    (hws : ∀ w ∈ ws, ∀ a' U, s.WarmedH U.vm → w.before a' U = true) (hcode : Cond.codeWith y bytes maxL ret hh ∈ ws) (hinit : ∀ a' U, s.WarmedH U.vm → (Cond.initialized y.cls).before a' U = true) :
    vx_Back l R p e below s sargs y len W9 (PreOf R mc ms Pc) (PostOf Qc mc ms free) (vx_Post XC mc ms free) := by
  intro m meth c A g ig mk a X hg hsize hdg hW hn hp
  have h1 : (headSpec ws rm).pre.before a A.U = true := atoms_intro fun w hw => hws w hw _ _ X.warmed
  have h2 : (Cond.codeWith y bytes maxL ret hh).before a A.U = true := hws _ hcode _ _ X.warmed
  have h3 : (Cond.initialized y.cls).before a A.U = true := hinit _ _ X.warmed
  have h4 : A.cells + (headSpec ws rm).room.cells ≤ R.cells := by rw [show (headSpec ws rm).room.cells = mc from hrc]; exact hp.1
  have h5 : A.slots + (headSpec ws rm).room.slots ≤ R.slots := by rw [show (headSpec ws rm).room.slots = ms from hrs]; exact hp.2.1
  have hPc : Pc a (A.U.calling g mk a) := hblind _ _ _ _ hp.2.2
  obtain ⟨U, Ls, c0, s0⟩ := A
  dsimp only [Pt.U, Pt.locs, Pt.cells, Pt.slots] at h1 h2 h3 h4 h5 X hn hPc ⊢
  obtain ⟨m9, methY, cY, hn9, hmY, hcY, -, hlY, -⟩ := Cond.codeWith_spec h2
  cases Option.some.inj (hn9.symm.trans hn)
  obtain ⟨kY, hkY, -⟩ := className_of_methodNamed hn
  have hinitY : kY.init = .initialized := Cond.initialized_spec (findClass_of_methodNamed hn) hkY h3
  have h : At U g.method c below := by rw [hg]; exact X.here
  have hlocals9 : W9 + (maxL + 11) + (headSpec ws rm).room.locals ≤ R.locals := hlocals
  have happ : (headSpec ws rm).appliesLoose y e.platform (U.calling g mk a) = true :=
    Spec.appliesLoose_calling (g := g) h hdg hn hkY hinitY
      (X.room_calling (g := g) (R' := (headSpec ws rm).room) hsize hmY hcY hframes (by rw [hlY]; omega) h4 h5) h1
  obtain ⟨mid, hmid⟩ := h.above
  have hfr : (U.setTop g).frames = (.java g :: mid) ++ below := by rw [State.frames_setTop' g h.top, hmid]; rfl
  obtain ⟨o, s₂, hsteps, -, hend, hq⟩ := Steps.callFree hM p X.admits X.cas X.clock (acts := []) hfr happ hPc trivial
  have hq' : vx_Q Qc XC mc ms free a (U.calling g mk a) o s₂ := hq
  rw [State.frames_setTop' g h.top] at hend
  obtain ⟨g₀, hg0⟩ := Option.isSome_iff_exists.mp h.top
  obtain ⟨r, hr⟩ := State.topJava?_eq_some.mp hg0
  have hr' : (({ U with heap := s₂.heap, slotsUsed := s₂.slotsUsed } : State).setVm s₂.vm).frames = .java g₀ :: r := hr
  rcases hq' with ⟨hqc, L, hfe, hL⟩ | ⟨q, rfl, E, ce, L, hx, hce, hcv, hcl, hW₂, hsm, hL⟩
  · obtain ⟨⟨v, rfl⟩, hW₂, e2, q2, q3, q4, q5, q6⟩ := id hfe
    have e3 : s₂ = ({ (U.calling g mk a).setFrames s₂.frames with heap := s₂.heap, slotsUsed := s₂.slotsUsed } : State).setVm s₂.vm := by
      have : s₂ = ({ s₂ with vm := (U.calling g mk a).vm } : State).setVm s₂.vm := rfl
      rw [e2] at this
      exact this
    obtain ⟨c₂, i₂, len₂, hc₂, hd₂, hf₂⟩ := hend
    have hW' : U.WarmedH s₂.vm := hW₂
    have hcc : c₂ = c := by
      have h1 : s₂.code? g.method = U.code? g.method := by
        rw [State.code?_eq, State.code?_eq, hW'.alike.method?]
      exact Option.some.inj (hc₂.symm.trans (h1.trans h.code))
    subst hcc
    have hlen : len₂ = len := by rw [hdg] at hd₂; cases hd₂; rfl
    subst hlen
    have hs₂ : s₂ = (({ U with heap := s₂.heap, slotsUsed := s₂.slotsUsed } : State).setVm s₂.vm).setTop { g with pc := g.pc + len₂, stack := v.toList ++ g.stack } := by
      refine e3.trans ?_
      rw [hf₂, State.calling_eq h.top, State.setFrames_setFrames, State.setTop_of_frames _ hr', hr]
      rfl
    have hsame : U.sameButNew ({ U with heap := s₂.heap, slotsUsed := s₂.slotsUsed } : State) L mc ms := by
      refine ⟨?_, q2, q3, q4, q5, q6⟩
      obtain ⟨t, ht, -⟩ := State.frames_cons hr
      show ({ U with heap := s₂.heap, slotsUsed := s₂.slotsUsed } : State) = { U.setFrames U.frames with heap := s₂.heap, slotsUsed := s₂.slotsUsed }
      rw [State.setFrames_self ht]
    subst hg
    refine Or.inl ⟨v, ⟨(({ U with heap := s₂.heap, slotsUsed := s₂.slotsUsed } : State).setVm s₂.vm), Ls ++ L, c0 + mc, s0 + ms⟩,
      ⟨X.admits, X.cas, X.clock, X.frames, X.room, X.hears, X.method, X.code, (X.here.setHeapUsed s₂.heap s₂.slotsUsed).setVm hW'.alike, X.tail, State.WarmedH.trans X.warmed hW', X.limits, X.bytes, X.same.trans (hsame.setVm s.vm)⟩,
      ⟨g, mk, s₂, L, rfl, rfl, hqc, rfl, hL, rfl, rfl⟩, ?_⟩
    show Steps p.tables e below _ ((({ U with heap := s₂.heap, slotsUsed := s₂.slotsUsed } : State).setVm s₂.vm).setTop { g with pc := g.pc + len₂, stack := v.toList ++ g.stack })
    rw [← hs₂]
    exact hsteps
  · obtain ⟨e2, q2, q3, q4, q5, q6⟩ := id hsm
    have e3 : s₂ = ({ (U.calling g mk a).setFrames s₂.frames with heap := s₂.heap, slotsUsed := s₂.slotsUsed } : State).setVm s₂.vm := by
      have : s₂ = ({ s₂ with vm := (U.calling g mk a).vm } : State).setVm s₂.vm := rfl
      rw [e2] at this
      exact this
    have hf₂ : s₂.frames = .throwing q :: .java g :: U.frames.tail := hend
    have hW' : U.WarmedH s₂.vm := hW₂
    have hs₂ : s₂ = ((({ U with heap := s₂.heap, slotsUsed := s₂.slotsUsed } : State).setVm s₂.vm).setTop g).pushFrame (.throwing q) := by
      refine e3.trans ?_
      rw [hf₂, State.calling_eq h.top, State.setFrames_setFrames, State.pushFrame, State.frames_setTop _ hr', State.setTop_of_frames _ hr', State.setFrames_setFrames, hr]
      rfl
    have hsame : U.sameButNew ({ U with heap := s₂.heap, slotsUsed := s₂.slotsUsed } : State) L mc ms := by
      refine ⟨?_, q2, q3, q4, q5, q6⟩
      obtain ⟨t, ht, -⟩ := State.frames_cons hr
      show ({ U with heap := s₂.heap, slotsUsed := s₂.slotsUsed } : State) = { U.setFrames U.frames with heap := s₂.heap, slotsUsed := s₂.slotsUsed }
      rw [State.setFrames_self ht]
    subst hg
    refine Or.inr ⟨q, ⟨(({ U with heap := s₂.heap, slotsUsed := s₂.slotsUsed } : State).setVm s₂.vm), Ls ++ L, c0 + mc, s0 + ms⟩,
      ⟨X.admits, X.cas, X.clock, X.frames, X.room, X.hears, X.method, X.code, (X.here.setHeapUsed s₂.heap s₂.slotsUsed).setVm hW'.alike, X.tail, State.WarmedH.trans X.warmed hW', X.limits, X.bytes, X.same.trans (hsame.setVm s.vm)⟩,
      ⟨g, mk, s₂, L, E, ce, rfl, rfl, hx, hce, hcv, hcl, rfl, hL, rfl, rfl⟩, ?_⟩
    show Steps p.tables e below _ (((({ U with heap := s₂.heap, slotsUsed := s₂.slotsUsed } : State).setVm s₂.vm).setTop g).pushFrame (.throwing q))
    rw [← hs₂]
    exact hsteps
end
variable {p : Program} {l : Launch} {e : Env} {R : Room} {s : State} {m : MethodId} {args : Array Value} {below : List Frame} {meth : Method} {c : Code} {T : State} {H : Heap} {locs : List Loc} {cells slots : Nat}
theorem vx_callVX (X : Stand p l e R s m args below meth c T locs cells slots) (hexec : p.tables.exec = Jvm.exec) {own C : String} {index : Nat} {y : MethodName} {bytes : ByteArray} {maxL : Nat} {ret : Option FieldType} {hh : List (Nat × Nat × Nat × Nat)}
    (hown : s.vm.findClass own = some m.cls) (hlink : (Cond.methodLink own index y).before args s = true) (hinst : (Cond.instanceMethod y).before args s = true) (hsel : (Cond.selects C y y).before args s = true)
    (hcode : (Cond.codeWith y bytes maxL ret hh).before args s = true) (hy : y.cls ≠ "java/lang/invoke/MethodHandle" ∧ y.cls ≠ "java/lang/invoke/VarHandle")
    {W9 : Nat} {Pre : Pt → Array Value → Prop} {Post : Pt → Array Value → Option Value → Pt → Prop} {PostX : Pt → Array Value → Addr → Pt → Prop} (hK : vx_Back l R p e below s args y 3 W9 Pre Post PostX)
    {b : Addr} {cellB : Cell} (hcell : T.heap[b]? = some cellB) (hobj : cellB.vm.isStatics = false) (hcls : s.vm.findClass C = some cellB.cls)
    {g : JFrame} (hg : g.method = m) (hsize : g.locals.size = c.maxLocals) {argsL rest : List Value} (hlen : ∀ sig, parseMethodDescriptor y.desc = some sig → argsL.length = sig.parameters.length)
    (hstack : g.stack = argsL.reverse ++ .ref b :: rest) (hW : 2 * g.monitorRoom + (rest.map fun v => v.category).sum ≤ W9) (hdg : decode c.code g.pc = .ok (.invokevirtual index, 3))
    (hpre : ∀ vm₁, s.WarmedH vm₁ → Pre ⟨T.setVm vm₁, locs, cells, slots⟩ (Value.ref b :: argsL).toArray) :
    (∃ (v : Option Value) (vm₁ : Vm) (B : Pt), s.WarmedH vm₁ ∧ Stand p l e R s m args below meth c B.U B.locs B.cells B.slots ∧ Post ⟨T.setVm vm₁, locs, cells, slots⟩ (Value.ref b :: argsL).toArray v B ∧
      ∀ target, Steps p.tables e below (B.U.setTop { g with pc := g.pc + 3, stack := v.toList ++ rest }) target → Steps p.tables e below (T.setTop g) target) ∨
    (∃ (q : Addr) (vm₁ : Vm) (B : Pt), s.WarmedH vm₁ ∧ Stand p l e R s m args below meth c B.U B.locs B.cells B.slots ∧ PostX ⟨T.setVm vm₁, locs, cells, slots⟩ (Value.ref b :: argsL).toArray q B ∧
      Steps p.tables e below (T.setTop g) ((B.U.setTop { g with stack := rest }).pushFrame (.throwing q))) := by
  obtain ⟨mk, methM, hnamed, hmethM, hstM, habM⟩ := Cond.instanceMethod_spec hinst
  obtain ⟨m8, methM', cM, hn8, hmethM', -, -, -, -, -, -, hsigM⟩ := Cond.codeWith_spec hcode
  cases Option.some.inj (hn8.symm.trans hnamed)
  cases hmethM.symm.trans hmethM'
  obtain ⟨c2, r2, m2, q1, q2, q3, q4, kP, hkP, hkPi⟩ := Cond.selects_spec hsel
  cases hcls.symm.trans q1
  cases (State.methodFound?_of_named hnamed hy).symm.trans q2
  cases hnamed.symm.trans q3
  have hselP : selectMethod e.platform s.vm cellB.cls mk = .method mk := by rw [Launch.admits_selectMethod X.admits]; exact q4
  obtain ⟨vm₁, X₁, hstep₁⟩ := X.invokevirtual hexec hown hlink hnamed hmethM hstM hkP hkPi hy (a := b) (cell := cellB) hcell
    (fun z h => by rw [h] at hobj; cases hobj) hselP hmethM habM hkP hkPi (g := g) hg (argsL := argsL) (rest := rest) (hlen _ hsigM) hstack hdg
  rcases hK m meth c ⟨T.setVm vm₁, locs, cells, slots⟩ { g with stack := rest } (.invokevirtual index) mk (Value.ref b :: argsL).toArray X₁ hg hsize hdg hW (X₁.named hnamed) (hpre vm₁ X₁.warmed) with ⟨v, B, X', hpost, hsteps⟩ | ⟨q, B, X', hpost, hsteps⟩
  · exact Or.inl ⟨v, vm₁, B, X₁.warmed, X', hpost, fun target h => hstep₁ _ fun acts => by rw [doInvoke_state]; exact hsteps.trans h⟩
  · exact Or.inr ⟨q, vm₁, B, X₁.warmed, X', hpost, hstep₁ _ fun acts => by rw [doInvoke_state]; exact hsteps⟩
theorem vx_callSX (X : Stand p l e R s m args below meth c T locs cells slots) (hexec : p.tables.exec = Jvm.exec) {own : String} {index : Nat} {y : MethodName} {bytes : ByteArray} {maxL : Nat} {ret : Option FieldType} {hh : List (Nat × Nat × Nat × Nat)}
    (hown : s.vm.findClass own = some m.cls) (hlink : (Cond.methodLink own index y).before args s = true) (hstat : (Cond.static y).before args s = true) (hinit : (Cond.initialized y.cls).before args s = true)
    (hcode : (Cond.codeWith y bytes maxL ret hh).before args s = true) (hy : y.cls ≠ "java/lang/invoke/MethodHandle" ∧ y.cls ≠ "java/lang/invoke/VarHandle")
    {W9 : Nat} {Pre : Pt → Array Value → Prop} {Post : Pt → Array Value → Option Value → Pt → Prop} {PostX : Pt → Array Value → Addr → Pt → Prop} (hK : vx_Back l R p e below s args y 3 W9 Pre Post PostX)
    {g : JFrame} (hg : g.method = m) (hsize : g.locals.size = c.maxLocals) {argsL rest : List Value} (hlen : ∀ sig, parseMethodDescriptor y.desc = some sig → argsL.length = sig.parameters.length)
    (hstack : g.stack = argsL.reverse ++ rest) (hW : 2 * g.monitorRoom + (rest.map fun v => v.category).sum ≤ W9) (hdg : decode c.code g.pc = .ok (.invokestatic index, 3))
    (hpre : ∀ vm₁, s.WarmedH vm₁ → Pre ⟨T.setVm vm₁, locs, cells, slots⟩ argsL.toArray) :
    (∃ (v : Option Value) (vm₁ : Vm) (B : Pt), s.WarmedH vm₁ ∧ Stand p l e R s m args below meth c B.U B.locs B.cells B.slots ∧ Post ⟨T.setVm vm₁, locs, cells, slots⟩ argsL.toArray v B ∧
      ∀ target, Steps p.tables e below (B.U.setTop { g with pc := g.pc + 3, stack := v.toList ++ rest }) target → Steps p.tables e below (T.setTop g) target) ∨
    (∃ (q : Addr) (vm₁ : Vm) (B : Pt), s.WarmedH vm₁ ∧ Stand p l e R s m args below meth c B.U B.locs B.cells B.slots ∧ PostX ⟨T.setVm vm₁, locs, cells, slots⟩ argsL.toArray q B ∧
      Steps p.tables e below (T.setTop g) ((B.U.setTop { g with stack := rest }).pushFrame (.throwing q))) := by
  obtain ⟨mk, methM, cM, hnamed, hmethM, -, -, -, -, -, -, hsigM⟩ := Cond.codeWith_spec hcode
  have hstatic : methM.isStatic = true := Cond.static_spec hnamed hmethM hstat
  obtain ⟨kP, hkP, -⟩ := className_of_methodNamed hnamed
  have hinitP : kP.init = .initialized := Cond.initialized_spec (findClass_of_methodNamed hnamed) hkP hinit
  obtain ⟨vm₁, X₁, hstep₁⟩ := X.invokestatic hexec hown hlink hnamed hmethM hstatic hkP hinitP hy (g := g) hg (argsL := argsL) (rest := rest) (hlen _ hsigM) hstack hdg
  rcases hK m meth c ⟨T.setVm vm₁, locs, cells, slots⟩ { g with stack := rest } (.invokestatic index) mk argsL.toArray X₁ hg hsize hdg hW (X₁.named hnamed) (hpre vm₁ X₁.warmed) with ⟨v, B, X', hpost, hsteps⟩ | ⟨q, B, X', hpost, hsteps⟩
  · exact Or.inl ⟨v, vm₁, B, X₁.warmed, X', hpost, fun target h => hstep₁ _ fun acts => by rw [doInvoke_state]; exact hsteps.trans h⟩
  · exact Or.inr ⟨q, vm₁, B, X₁.warmed, X', hpost, hstep₁ _ fun acts => by rw [doInvoke_state]; exact hsteps⟩
theorem vx_callVW (X : Stand p l e R s m args below meth c T locs cells slots) (hexec : p.tables.exec = Jvm.exec) {own C : String} {index : Nat} {y : MethodName} {bytes : ByteArray} {maxL : Nat} {ret : Option FieldType} {hh : List (Nat × Nat × Nat × Nat)}
    (hown : s.vm.findClass own = some m.cls) (hlink : (Cond.methodLink own index y).before args s = true) (hinst : (Cond.instanceMethod y).before args s = true) (hsel : (Cond.selects C y y).before args s = true)
    (hcode : (Cond.codeWith y bytes maxL ret hh).before args s = true) (hy : y.cls ≠ "java/lang/invoke/MethodHandle" ∧ y.cls ≠ "java/lang/invoke/VarHandle")
    {W9 : Nat} {Pre : Pt → Array Value → Prop} {Post : Pt → Array Value → Option Value → Pt → Prop} (hK : Back l R p e below s args y 3 W9 Pre Post)
    {b : Addr} {cellB : Cell} (hcell : T.heap[b]? = some cellB) (hobj : cellB.vm.isStatics = false) (hcls : s.vm.findClass C = some cellB.cls)
    {g : JFrame} (hg : g.method = m) (hsize : g.locals.size = c.maxLocals) {argsL rest : List Value} (hlen : ∀ sig, parseMethodDescriptor y.desc = some sig → argsL.length = sig.parameters.length)
    (hstack : g.stack = argsL.reverse ++ .ref b :: rest) (hW : 2 * g.monitorRoom + (rest.map fun v => v.category).sum ≤ W9) (hdg : decode c.code g.pc = .ok (.invokevirtual index, 3))
    (hpre : ∀ vm₁, s.WarmedH vm₁ → Pre ⟨T.setVm vm₁, locs, cells, slots⟩ (Value.ref b :: argsL).toArray) :
    ∃ (v : Option Value) (vm₁ : Vm) (B : Pt), s.WarmedH vm₁ ∧ Stand p l e R s m args below meth c B.U B.locs B.cells B.slots ∧ Post ⟨T.setVm vm₁, locs, cells, slots⟩ (Value.ref b :: argsL).toArray v B ∧
      ∀ target, Steps p.tables e below (B.U.setTop { g with pc := g.pc + 3, stack := v.toList ++ rest }) target → Steps p.tables e below (T.setTop g) target := by
  obtain ⟨mk, methM, hnamed, hmethM, hstM, habM⟩ := Cond.instanceMethod_spec hinst
  obtain ⟨m8, methM', cM, hn8, hmethM', -, -, -, -, -, -, hsigM⟩ := Cond.codeWith_spec hcode
  cases Option.some.inj (hn8.symm.trans hnamed)
  cases hmethM.symm.trans hmethM'
  obtain ⟨c2, r2, m2, q1, q2, q3, q4, kP, hkP, hkPi⟩ := Cond.selects_spec hsel
  cases hcls.symm.trans q1
  cases (State.methodFound?_of_named hnamed hy).symm.trans q2
  cases hnamed.symm.trans q3
  have hselP : selectMethod e.platform s.vm cellB.cls mk = .method mk := by rw [Launch.admits_selectMethod X.admits]; exact q4
  obtain ⟨vm₁, X₁, hstep₁⟩ := X.invokevirtual hexec hown hlink hnamed hmethM hstM hkP hkPi hy (a := b) (cell := cellB) hcell
    (fun z h => by rw [h] at hobj; cases hobj) hselP hmethM habM hkP hkPi (g := g) hg (argsL := argsL) (rest := rest) (hlen _ hsigM) hstack hdg
  obtain ⟨v, B, X', hpost, hsteps⟩ := hK m meth c ⟨T.setVm vm₁, locs, cells, slots⟩ { g with stack := rest } (.invokevirtual index) mk (Value.ref b :: argsL).toArray X₁ hg hsize hdg hW (X₁.named hnamed) (hpre vm₁ X₁.warmed)
  exact ⟨v, vm₁, B, X₁.warmed, X', hpost, fun target h => hstep₁ _ fun acts => by rw [doInvoke_state]; exact hsteps.trans h⟩
abbrev vx_CVW (R : Room) (s : State) (args : Array Value) (own C : String) (index : Nat) (y : MethodName) (bytes : ByteArray) (maxL : Nat) (ret : Option FieldType) (hh : List (Nat × Nat × Nat × Nat)) (ws : List Cond) (rm : Room) (mc ms n : Nat) : Prop :=
  (rm.cells = mc ∧ rm.slots = ms ∧ rm.frames + 1 ≤ R.frames ∧ 8 + (maxL + 11) + rm.locals ≤ R.locals ∧ (∀ w ∈ ws, ∀ (a' : Array Value) (U : State), s.WarmedH U.vm → w.before a' U = true) ∧ Cond.codeWith y bytes maxL ret hh ∈ ws) ∧
  (Cond.codeWith y bytes maxL ret hh).before args s = true ∧ (Cond.initialized y.cls).before args s = true ∧ (y.cls ≠ "java/lang/invoke/MethodHandle" ∧ y.cls ≠ "java/lang/invoke/VarHandle") ∧
  (∀ sig, parseMethodDescriptor y.desc = some sig → n = sig.parameters.length) ∧ (Cond.methodLink own index y).before args s = true ∧ (Cond.instanceMethod y).before args s = true ∧ (Cond.selects C y y).before args s = true
theorem vx_cwVW {own C : String} {index maxL mc ms : Nat} {y : MethodName} {bytes : ByteArray} {ret : Option FieldType} {hh : List (Nat × Nat × Nat × Nat)} {Ts ws ws' : List Cond} {rm : Room} (n : Nat) (ht : ∀ w ∈ Ts, w.before args s = true) (hT : GoodIn Ts (wsV own index C y ws)) (hw : ws = Cond.codeWith y bytes maxL ret hh :: ws') (hrc : rm.cells = mc) (hrs : rm.slots = ms)
    (hd : y.cls = C ∧ y.cls ≠ "java/lang/invoke/MethodHandle" ∧ y.cls ≠ "java/lang/invoke/VarHandle" ∧ (parseMethodDescriptor y.desc).map (fun d => d.parameters.length) = some n) (hR : rm.frames + 1 ≤ R.frames ∧ 8 + (maxL + 11) + rm.locals ≤ R.locals) :
    vx_CVW R s args own C index y bytes maxL ret hh ws rm mc ms n := by
  obtain ⟨hC, hd⟩ := hd
  subst hC
  have ok : ∀ w ∈ wsV own index y.cls y ws, w.before args s = true := fun w h => ht w (hT w h).1
  have hG : GoodIn Ts ws := fun w h => hT w (by unfold wsV; exact List.mem_append_right _ h)
  have hc : Cond.codeWith y bytes maxL ret hh ∈ ws := by rw [hw]; exact List.mem_cons_self
  refine ⟨⟨hrc, hrs, hR.1, hR.2, pay_in ht hG, hc⟩, ht _ (hG _ hc).1, ok _ (by simp [wsV]), ⟨hd.1, hd.2.1⟩, fun sig h => ?_, ok _ (by simp [wsV]), ok _ (by simp [wsV]), ok _ (by simp [wsV])⟩
  have h2 := hd.2.2
  rw [h] at h2
  exact (Option.some.inj h2).symm
theorem vx_runVW {y : MethodName} {bytes cc : ByteArray} {maxL nL mc ms n index : Nat} {ret : Option FieldType} {hh : List (Nat × Nat × Nat × Nat)} {ws : List Cond} {rm : Room} {Pc : Array Value → State → Prop} {Qc : Array Value → State → Outcome → State → Prop} {free : Addr → Prop} {Ts : List Cond} {own C : String} {b : Addr} {As rest : List Value} {g : JFrame}
    (S : CallFix p m c cc nL s args Ts own) (hM : Met l y ws rm Pc Qc mc ms free) (cw : vx_CVW R s args own C index y bytes maxL ret hh ws rm mc ms n) (hp : PreV s H C b Pc As)
    (hg : g.method = m) (hn : As.length = n) (hsize : g.locals.size = nL) (hstack : g.stack = As.reverse ++ .ref b :: rest) (hW : 2 * g.monitorRoom + (rest.map fun v => v.category).sum ≤ 8) (hdg : decode cc g.pc = .ok (.invokevirtual index, 3)) (hf : cells + mc ≤ R.cells ∧ slots + ms ≤ R.slots) :
    va_Run p l e R s m args below meth c H locs cells slots mc ms g rest (Qc (Value.ref b :: As).toArray) free := by
  obtain ⟨⟨hrc, hrs, hfr, hlo, hws, hcw⟩, hcode, hini, hy, hlen, hl, hin, hse⟩ := cw
  have hK : Back l R p e below s args y 3 8 (PreOf R mc ms Pc) (PostOf Qc mc ms free) := va_backW (hh := hh) (bytes := bytes) (maxL := maxL) (ret := ret) hM hp.1 hrc hrs hfr hlo hws hcw (fun a' U hW => word_at hW (Or.inl (by first | rfl | simp [Cond.onTables, Cond.keeps, Cond.steady])) hini)
  obtain ⟨hx, hb, hml, ho, -⟩ := S
  obtain ⟨-, ⟨cellB, hcB, hoB, hclB⟩, hPc⟩ := hp
  intro T hT X
  obtain ⟨v, vm₁, ⟨U', l2, c2, s2⟩, hW₁, X', ⟨g', mk, t, L, e1, e2, hq, h1, hL, h2, h3⟩, st⟩ := vx_callVW X hx (C := C) (hh := hh) (bytes := bytes) (maxL := maxL) (ret := ret) ho hl hin hse hcode hy hK (by rw [hT]; exact hcB) hoB hclB hg (hsize.trans hml.symm) (argsL := As) (rest := rest) (fun sig h => hn.trans (hlen sig h)) hstack hW (by rw [hb]; exact hdg)
    (fun vm₁ hW₁ => ⟨hf.1, hf.2, hPc (T.setVm vm₁) hT hW₁⟩)
  dsimp only [Pt.U, Pt.locs, Pt.cells, Pt.slots] at X' e1 e2 h1 h2 h3 st
  subst h1; subst h2; subst h3
  exact ⟨v, (T.setVm vm₁).calling g' mk (Value.ref b :: As).toArray, t, U', L, hT, X', hL, e1, e2, hq, st⟩
section
variable {y : MethodName} {bytes cc : ByteArray} {maxL nL mc ms n index : Nat} {ret : Option FieldType} {ws : List Cond} {rm : Room} {Pc : Array Value → State → Prop} {Qc : Array Value → State → Outcome → State → Prop} {XC : String → State → State → Prop} {free : Addr → Prop} {Ts : List Cond} {own C : String} {b : Addr} {As rest : List Value} {g : JFrame}
theorem vx_runVX {hh : List (Nat × Nat × Nat × Nat)} (S : CallFix p m c cc nL s args Ts own) (hM : vx_Met l y ws rm Pc Qc XC mc ms free) (cw : vx_CVW R s args own C index y bytes maxL ret hh ws rm mc ms n) (hp : PreV s H C b Pc As)
    (hg : g.method = m) (hn : As.length = n) (hsize : g.locals.size = nL) (hstack : g.stack = As.reverse ++ .ref b :: rest) (hW : 2 * g.monitorRoom + (rest.map fun v => v.category).sum ≤ 8) (hdg : decode cc g.pc = .ok (.invokevirtual index, 3)) (hf : cells + mc ≤ R.cells ∧ slots + ms ≤ R.slots) :
    vx_Run p l e R s m args below meth c H locs cells slots mc ms g rest (Qc (Value.ref b :: As).toArray) XC free := by
  obtain ⟨⟨hrc, hrs, hfr, hlo, hws, hcw⟩, hcode, hini, hy, hlen, hl, hin, hse⟩ := cw
  have hK : vx_Back l R p e below s args y 3 8 (PreOf R mc ms Pc) (PostOf Qc mc ms free) (vx_Post XC mc ms free) := vx_backW (hh := hh) (bytes := bytes) (maxL := maxL) (ret := ret) hM hp.1 hrc hrs hfr hlo hws hcw (fun a' U hW => word_at hW (Or.inl (by first | rfl | simp [Cond.onTables, Cond.keeps, Cond.steady])) hini)
  obtain ⟨hx, hb, hml, ho, -⟩ := S
  obtain ⟨-, ⟨cellB, hcB, hoB, hclB⟩, hPc⟩ := hp
  intro T hT X
  rcases vx_callVX X hx (C := C) (hh := hh) (bytes := bytes) (maxL := maxL) (ret := ret) ho hl hin hse hcode hy hK (by rw [hT]; exact hcB) hoB hclB hg (hsize.trans hml.symm) (argsL := As) (rest := rest) (fun sig h => hn.trans (hlen sig h)) hstack hW (by rw [hb]; exact hdg)
    (fun vm₁ hW₁ => ⟨hf.1, hf.2, hPc (T.setVm vm₁) hT hW₁⟩) with ⟨v, vm₁, ⟨U', l2, c2, s2⟩, hW₁, X', ⟨g', mk, t, L, e1, e2, hq, h1, hL, h2, h3⟩, st⟩ | ⟨q, vm₁, ⟨U', l2, c2, s2⟩, hW₁, X', ⟨g', mk, t, L, E, ce, e1, e2, hq, hce, hcv, hcl, h1, hL, h2, h3⟩, st⟩
  · dsimp only [Pt.U, Pt.locs, Pt.cells, Pt.slots] at X' e1 e2 h1 h2 h3 st
    subst h1; subst h2; subst h3
    exact Or.inl ⟨v, (T.setVm vm₁).calling g' mk (Value.ref b :: As).toArray, t, U', L, hT, X', hL, e1, e2, hq, st⟩
  · dsimp only [Pt.U, Pt.locs, Pt.cells, Pt.slots] at X' e1 e2 h1 h2 h3 st hcl
    subst h1; subst h2; subst h3
    exact Or.inr ⟨q, (T.setVm vm₁).calling g' mk (Value.ref b :: As).toArray, t, U', L, E, ce, hT, X', hL, e1, e2, hq, hce, hcv, vx_cls hW₁ hcl, st⟩
theorem vx_runSX {hh : List (Nat × Nat × Nat × Nat)} (S : CallFix p m c cc nL s args Ts own) (hM : vx_Met l y ws rm Pc Qc XC mc ms free) (cw : vx_CSW R s args own index y bytes maxL ret hh ws rm mc ms n) (hp : PreS s H Pc As)
    (hg : g.method = m) (hn : As.length = n) (hsize : g.locals.size = nL) (hstack : g.stack = As.reverse ++ rest) (hW : 2 * g.monitorRoom + (rest.map fun v => v.category).sum ≤ 8) (hdg : decode cc g.pc = .ok (.invokestatic index, 3)) (hf : cells + mc ≤ R.cells ∧ slots + ms ≤ R.slots) :
    vx_Run p l e R s m args below meth c H locs cells slots mc ms g rest (Qc As.toArray) XC free := by
  obtain ⟨⟨hrc, hrs, hfr, hlo, hws, hcw⟩, hcode, hini, hy, hlen, hl, hstt⟩ := cw
  have hK : vx_Back l R p e below s args y 3 8 (PreOf R mc ms Pc) (PostOf Qc mc ms free) (vx_Post XC mc ms free) := vx_backW (hh := hh) (bytes := bytes) (maxL := maxL) (ret := ret) hM hp.1 hrc hrs hfr hlo hws hcw (fun a' U hW => word_at hW (Or.inl (by first | rfl | simp [Cond.onTables, Cond.keeps, Cond.steady])) hini)
  obtain ⟨hx, hb, hml, ho, -⟩ := S
  intro T hT X
  rcases vx_callSX X hx (hh := hh) (bytes := bytes) (maxL := maxL) (ret := ret) ho hl hstt hini hcode hy hK hg (hsize.trans hml.symm) (argsL := As) (rest := rest) (fun sig h => hn.trans (hlen sig h)) hstack hW (by rw [hb]; exact hdg)
    (fun vm₁ hW₁ => ⟨hf.1, hf.2, hp.2 (T.setVm vm₁) hT hW₁⟩) with ⟨v, vm₁, ⟨U', l2, c2, s2⟩, hW₁, X', ⟨g', mk, t, L, e1, e2, hq, h1, hL, h2, h3⟩, st⟩ | ⟨q, vm₁, ⟨U', l2, c2, s2⟩, hW₁, X', ⟨g', mk, t, L, E, ce, e1, e2, hq, hce, hcv, hcl, h1, hL, h2, h3⟩, st⟩
  · dsimp only [Pt.U, Pt.locs, Pt.cells, Pt.slots] at X' e1 e2 h1 h2 h3 st
    subst h1; subst h2; subst h3
    exact Or.inl ⟨v, (T.setVm vm₁).calling g' mk As.toArray, t, U', L, hT, X', hL, e1, e2, hq, st⟩
  · dsimp only [Pt.U, Pt.locs, Pt.cells, Pt.slots] at X' e1 e2 h1 h2 h3 st hcl
    subst h1; subst h2; subst h3
    exact Or.inr ⟨q, (T.setVm vm₁).calling g' mk As.toArray, t, U', L, E, ce, hT, X', hL, e1, e2, hq, hce, hcv, vx_cls hW₁ hcl, st⟩
end
end VXH
theorem vx_ofWH {l : Launch} {y : MethodName} {ws ws' : List Cond} {rm : Room} {Pc : Array Value → State → Prop} {Qc : Array Value → State → Outcome → State → Prop} {XC : String → State → State → Prop} {mc ms : Nat} {free : Addr → Prop} {cc : ByteArray} {maxL : Nat} {ret : Option FieldType} {hh : List (Nat × Nat × Nat × Nat)}
    (hy : plainName y.cls = true) (hw : ws = Cond.codeWith y cc maxL ret hh :: ws')
    (body : ∀ p e s m args below meth c s₁, BodyLoose p l y (headSpec ws rm) cc maxL ret e s m args below meth c s₁ → c.maxLocals = maxL → Pc args s →
      W p l e (headSpec ws rm).room s m args below meth c s.heap [] 0 0 (vx_MQ below Qc XC args s mc ms free) (entryFrame m args maxL)) : vx_Met l y ws rm Pc Qc XC mc ms free := by
  refine MetFree.of_bodyS (code := cc) (maxLocals := maxL) (ret := ret) hy ?_ ?_
  · intro args s m h hn
    obtain ⟨m9, meth, c, hn9, h1, h2, h3, h4, -, h5, h6, -⟩ := Cond.codeWith_spec (atoms_spec (ws := ws) h _ (by rw [hw]; exact List.mem_cons_self))
    cases hn.symm.trans hn9
    exact ⟨meth, c, h1, h2, h3, h4, h5, h6⟩
  · intro p e s m args below meth c s₁ B hml hP _
    have hh0 : s₁.heap = s.heap := by rw [B.state]; rfl
    obtain ⟨t, a1, o, b1, b2, b3⟩ := body p e s m args below meth c s₁ B hml hP s₁ hh0 (Stand.of_body B)
    exact ⟨t, o, a1, b1, b2, b3⟩
/-! ===== END ===== -/
end
section
/-! ===== BEGIN printed: names, fields, word lists, decode rows ===== -/
def RX0 : String := "HonestHouse$Heap"
def TX0 : u_T := fun k => match k with
  | 0 => ("HonestHouse$Heap", "wishes", "LHonestHouse$Wishes;", true)
  | 1 => ("HonestHouse$Heap", "cheapest", "[I", true)
  | 2 => ("HonestHouse$Heap", "own", "[I", true)
  | 3 => ("HonestHouse$Heap", "now", "[I", true)
  | 4 => ("HonestHouse$Heap", "members", "I", false)
  | _ => ("HonestHouse$Heap", "words", "I", false)
def tyX0 : Nat → FieldType := fun k => match k with
  | 0 => .object "HonestHouse$Wishes"
  | 1 => .array .int
  | 2 => .array .int
  | 3 => .array .int
  | 4 => .int
  | _ => .int
abbrev wsX00 : List Cond := u_ws RX0 TX0 6
theorem nmX0 : ∀ a, a < 6 → ∀ b, b < 6 → a ≠ b → (TX0 a).2.1 ≠ (TX0 b).2.1 := by decide +kernel
theorem tyX0_ok : ∀ k, k < 6 → parseFieldDescriptor (TX0 k).2.2.1 = some (tyX0 k) := by decide +kernel
abbrev cX0_init : ByteArray := prog_2_method_1_code
def yX0_init : MethodName := ⟨RX0, "<init>", "(LHonestHouse$Wishes;)V"⟩
abbrev cX0_firstRow : ByteArray := prog_2_method_2_code
def yX0_firstRow : MethodName := ⟨RX0, "firstRow", "(LHonestHouse$Table;I)I"⟩
abbrev cX0_firstRowFrom : ByteArray := prog_2_method_3_code
def yX0_firstRowFrom : MethodName := ⟨RX0, "firstRowFrom", "(LHonestHouse$Table;II)I"⟩
abbrev cX0_leastSaid : ByteArray := prog_2_method_4_code
def yX0_leastSaid : MethodName := ⟨RX0, "leastSaid", "(LHonestHouse$Table;I)I"⟩
abbrev cX0_leastSaidFrom : ByteArray := prog_2_method_5_code
def yX0_leastSaidFrom : MethodName := ⟨RX0, "leastSaidFrom", "(LHonestHouse$Table;I)I"⟩
abbrev cX0_isMember : ByteArray := prog_2_method_6_code
def yX0_isMember : MethodName := ⟨RX0, "isMember", "(I)Z"⟩
abbrev cX0_startOf : ByteArray := prog_2_method_7_code
def yX0_startOf : MethodName := ⟨RX0, "startOf", "(I)I"⟩
abbrev cX0_nextRow : ByteArray := prog_2_method_8_code
def yX0_nextRow : MethodName := ⟨RX0, "nextRow", "(I)I"⟩
abbrev cX0_findCheapest : ByteArray := prog_2_method_9_code
def yX0_findCheapest : MethodName := ⟨RX0, "findCheapest", "(LHonestHouse$Table;I)V"⟩
abbrev cX0_stand : ByteArray := prog_2_method_10_code
def yX0_stand : MethodName := ⟨RX0, "stand", "(LHonestHouse$Table;I)V"⟩
abbrev cX0_mayLie : ByteArray := prog_2_method_11_code
def yX0_mayLie : MethodName := ⟨RX0, "mayLie", "()Z"⟩
abbrev cX0_mayLieFor : ByteArray := prog_2_method_12_code
def yX0_mayLieFor : MethodName := ⟨RX0, "mayLieFor", "(I)Z"⟩
abbrev cX0_allGain : ByteArray := prog_2_method_13_code
def yX0_allGain : MethodName := ⟨RX0, "allGain", "(LHonestHouse$Table;I)Z"⟩
def RX1 : String := "HonestHouse$Market"
def TX1 : u_T := fun k => match k with
  | 0 => ("HonestHouse$Market", "people", "I", true)
  | 1 => ("HonestHouse$Market", "orders", "[I", true)
  | 2 => ("HonestHouse$Market", "thingAt", "[I", true)
  | 3 => ("HonestHouse$Market", "placeOf", "[I", true)
  | 4 => ("HonestHouse$Market", "pointed", "[I", true)
  | 5 => ("HonestHouse$Market", "got", "[I", true)
  | 6 => ("HonestHouse$Market", "left", "[I", true)
  | 7 => ("HonestHouse$Market", "trade", "[I", true)
  | _ => ("HonestHouse$Market", "other", "[I", true)
def tyX1 : Nat → FieldType := fun k => match k with
  | 0 => .int
  | 1 => .array .int
  | 2 => .array .int
  | 3 => .array .int
  | 4 => .array .int
  | 5 => .array .int
  | 6 => .array .int
  | 7 => .array .int
  | _ => .array .int
abbrev wsX10 : List Cond := u_ws RX1 TX1 9
theorem nmX1 : ∀ a, a < 9 → ∀ b, b < 9 → a ≠ b → (TX1 a).2.1 ≠ (TX1 b).2.1 := by decide +kernel
theorem tyX1_ok : ∀ k, k < 9 → parseFieldDescriptor (TX1 k).2.2.1 = some (tyX1 k) := by decide +kernel
abbrev cX1_init : ByteArray := prog_3_method_1_code
def yX1_init : MethodName := ⟨RX1, "<init>", "(I)V"⟩
abbrev cX1_isOrder : ByteArray := prog_3_method_2_code
def yX1_isOrder : MethodName := ⟨RX1, "isOrder", "(I)Z"⟩
abbrev cX1_read : ByteArray := prog_3_method_3_code
def yX1_read : MethodName := ⟨RX1, "read", "(I[I)V"⟩
abbrev cX1_told : ByteArray := prog_3_method_4_code
def yX1_told : MethodName := ⟨RX1, "told", "([I)I"⟩
abbrev cX1_learn : ByteArray := prog_3_method_5_code
def yX1_learn : MethodName := ⟨RX1, "learn", "(II)V"⟩
abbrev cX1_orderOf : ByteArray := prog_3_method_6_code
def yX1_orderOf : MethodName := ⟨RX1, "orderOf", "(I)I"⟩
abbrev cX1_placeFor : ByteArray := prog_3_method_7_code
def yX1_placeFor : MethodName := ⟨RX1, "placeFor", "(II)I"⟩
abbrev cX1_bestOf : ByteArray := prog_3_method_8_code
def yX1_bestOf : MethodName := ⟨RX1, "bestOf", "(II)I"⟩
abbrev cX1_tradeByRings : ByteArray := prog_3_method_9_code
def yX1_tradeByRings : MethodName := ⟨RX1, "tradeByRings", "()I"⟩
abbrev cX1_leaveByRings : ByteArray := prog_3_method_10_code
def yX1_leaveByRings : MethodName := ⟨RX1, "leaveByRings", "(II)I"⟩
abbrev cX1_isOnRing : ByteArray := prog_3_method_11_code
def yX1_isOnRing : MethodName := ⟨RX1, "isOnRing", "(I)Z"⟩
abbrev cX1_tradeByTurns : ByteArray := prog_3_method_12_code
def yX1_tradeByTurns : MethodName := ⟨RX1, "tradeByTurns", "(I)I"⟩
abbrev cX1_leastBlocking : ByteArray := prog_3_method_13_code
def yX1_leastBlocking : MethodName := ⟨RX1, "leastBlocking", "(I)I"⟩
abbrev cX1_keepsWithin : ByteArray := prog_3_method_14_code
def yX1_keepsWithin : MethodName := ⟨RX1, "keepsWithin", "(I)Z"⟩
abbrev cX1_isBetterFor : ByteArray := prog_3_method_15_code
def yX1_isBetterFor : MethodName := ⟨RX1, "isBetterFor", "(I)Z"⟩
abbrev cX1_isBettered : ByteArray := prog_3_method_16_code
def yX1_isBettered : MethodName := ⟨RX1, "isBettered", "(I)Z"⟩
abbrev cX1_goodTrades : ByteArray := prog_3_method_17_code
def yX1_goodTrades : MethodName := ⟨RX1, "goodTrades", "()I"⟩
abbrev cX1_coreTrades : ByteArray := prog_3_method_18_code
def yX1_coreTrades : MethodName := ⟨RX1, "coreTrades", "()I"⟩
abbrev cX1_leastLie : ByteArray := prog_3_method_19_code
def yX1_leastLie : MethodName := ⟨RX1, "leastLie", "(I)I"⟩
abbrev cX1_thingBySaying : ByteArray := prog_3_method_20_code
def yX1_thingBySaying : MethodName := ⟨RX1, "thingBySaying", "(II)I"⟩
def RX2 : String := "HonestHouse$Middle"
def TX2 : u_T := fun k => match k with
  | 0 => ("HonestHouse$Table", "number", "I", true)
  | 1 => ("HonestHouse$Table", "wishes", "LHonestHouse$Wishes;", true)
  | 2 => ("HonestHouse$Table", "endOf", "[I", true)
  | 3 => ("HonestHouse$Middle", "places", "[I", true)
  | _ => ("HonestHouse$Middle", "standing", "[I", true)
def tyX2 : Nat → FieldType := fun k => match k with
  | 0 => .int
  | 1 => .object "HonestHouse$Wishes"
  | 2 => .array .int
  | 3 => .array .int
  | _ => .array .int
abbrev wsX20 : List Cond := u_ws RX2 TX2 5
theorem nmX2 : ∀ a, a < 5 → ∀ b, b < 5 → a ≠ b → (TX2 a).2.1 ≠ (TX2 b).2.1 := by decide +kernel
theorem tyX2_ok : ∀ k, k < 5 → parseFieldDescriptor (TX2 k).2.2.1 = some (tyX2 k) := by decide +kernel
abbrev cX2_init : ByteArray := prog_4_method_1_code
def yX2_init : MethodName := ⟨RX2, "<init>", "(ILHonestHouse$Wishes;)V"⟩
abbrev cX2_settle : ByteArray := prog_4_method_2_code
def yX2_settle : MethodName := ⟨RX2, "settle", "(I)V"⟩
abbrev cX2_changeEnd : ByteArray := prog_4_method_3_code
def yX2_changeEnd : MethodName := ⟨RX2, "changeEnd", "(II)I"⟩
abbrev cX2_changePlace : ByteArray := prog_4_method_4_code
def yX2_changePlace : MethodName := ⟨RX2, "changePlace", "(II)I"⟩
abbrev cX2_middleOf : ByteArray := prog_4_method_5_code
def yX2_middleOf : MethodName := ⟨RX2, "middleOf", "(I)I"⟩
abbrev cX2_heft : ByteArray := prog_4_method_6_code
def yX2_heft : MethodName := ⟨RX2, "heft", "()I"⟩
abbrev cX2_fail : ByteArray := prog_4_method_7_code
def yX2_fail : MethodName := ⟨RX2, "fail", "()V"⟩
def RX3 : String := "HonestHouse$Paid"
def TX3 : u_T := fun k => match k with
  | 0 => ("HonestHouse$Table", "number", "I", true)
  | 1 => ("HonestHouse$Table", "wishes", "LHonestHouse$Wishes;", true)
  | 2 => ("HonestHouse$Table", "endOf", "[I", true)
  | _ => ("HonestHouse$Paid", "payments", "[I", true)
def tyX3 : Nat → FieldType := fun k => match k with
  | 0 => .int
  | 1 => .object "HonestHouse$Wishes"
  | 2 => .array .int
  | _ => .array .int
abbrev wsX30 : List Cond := u_ws RX3 TX3 4
theorem nmX3 : ∀ a, a < 4 → ∀ b, b < 4 → a ≠ b → (TX3 a).2.1 ≠ (TX3 b).2.1 := by decide +kernel
theorem tyX3_ok : ∀ k, k < 4 → parseFieldDescriptor (TX3 k).2.2.1 = some (tyX3 k) := by decide +kernel
abbrev cX3_init : ByteArray := prog_5_method_1_code
def yX3_init : MethodName := ⟨RX3, "<init>", "(ILHonestHouse$Wishes;)V"⟩
abbrev cX3_paymentAt : ByteArray := prog_5_method_2_code
def yX3_paymentAt : MethodName := ⟨RX3, "paymentAt", "(II)I"⟩
abbrev cX3_changePayment : ByteArray := prog_5_method_3_code
def yX3_changePayment : MethodName := ⟨RX3, "changePayment", "(III)I"⟩
abbrev cX3_heft : ByteArray := prog_5_method_4_code
def yX3_heft : MethodName := ⟨RX3, "heft", "()I"⟩
abbrev cX3_fail : ByteArray := prog_5_method_5_code
def yX3_fail : MethodName := ⟨RX3, "fail", "()V"⟩
def RX4 : String := "HonestHouse$Shelf"
def TX4 : u_T := fun k => match k with
  | 0 => ("HonestHouse$Shelf", "what", "I", false)
  | 1 => ("HonestHouse$Shelf", "rule", "LHonestHouse$Table;", false)
  | 2 => ("HonestHouse$Shelf", "heft", "I", false)
  | 3 => ("HonestHouse$Shelf", "size", "I", false)
  | _ => ("HonestHouse$Shelf", "elements", "[J", true)
def tyX4 : Nat → FieldType := fun k => match k with
  | 0 => .int
  | 1 => .object "HonestHouse$Table"
  | 2 => .int
  | 3 => .int
  | _ => .array .long
abbrev wsX40 : List Cond := u_ws RX4 TX4 5
theorem nmX4 : ∀ a, a < 5 → ∀ b, b < 5 → a ≠ b → (TX4 a).2.1 ≠ (TX4 b).2.1 := by decide +kernel
theorem tyX4_ok : ∀ k, k < 5 → parseFieldDescriptor (TX4 k).2.2.1 = some (tyX4 k) := by decide +kernel
abbrev cX4_init : ByteArray := prog_6_method_1_code
def yX4_init : MethodName := ⟨RX4, "<init>", "()V"⟩
abbrev cX4_holdNothing : ByteArray := prog_6_method_2_code
def yX4_holdNothing : MethodName := ⟨RX4, "holdNothing", "()V"⟩
abbrev cX4_holdRule : ByteArray := prog_6_method_3_code
def yX4_holdRule : MethodName := ⟨RX4, "holdRule", "(LHonestHouse$Table;)V"⟩
abbrev cX4_holdRow : ByteArray := prog_6_method_4_code
def yX4_holdRow : MethodName := ⟨RX4, "holdRow", "(II)V"⟩
abbrev cX4_holdsRow : ByteArray := prog_6_method_5_code
def yX4_holdsRow : MethodName := ⟨RX4, "holdsRow", "()Z"⟩
abbrev cX4_hasPlaces : ByteArray := prog_6_method_6_code
def yX4_hasPlaces : MethodName := ⟨RX4, "hasPlaces", "(II)Z"⟩
def RX5 : String := "HonestHouse$Table"
def TX5 : u_T := fun k => match k with
  | 0 => ("HonestHouse$Table", "number", "I", true)
  | 1 => ("HonestHouse$Table", "wishes", "LHonestHouse$Wishes;", true)
  | _ => ("HonestHouse$Table", "endOf", "[I", true)
def tyX5 : Nat → FieldType := fun k => match k with
  | 0 => .int
  | 1 => .object "HonestHouse$Wishes"
  | _ => .array .int
abbrev wsX50 : List Cond := u_ws RX5 TX5 3
theorem nmX5 : ∀ a, a < 3 → ∀ b, b < 3 → a ≠ b → (TX5 a).2.1 ≠ (TX5 b).2.1 := by decide +kernel
theorem tyX5_ok : ∀ k, k < 3 → parseFieldDescriptor (TX5 k).2.2.1 = some (tyX5 k) := by decide +kernel
abbrev cX5_init : ByteArray := prog_7_method_1_code
def yX5_init : MethodName := ⟨RX5, "<init>", "(ILHonestHouse$Wishes;)V"⟩
abbrev cX5_settle : ByteArray := prog_7_method_2_code
def yX5_settle : MethodName := ⟨RX5, "settle", "(I)V"⟩
abbrev cX5_endAt : ByteArray := prog_7_method_3_code
def yX5_endAt : MethodName := ⟨RX5, "endAt", "(I)I"⟩
abbrev cX5_paymentAt : ByteArray := prog_7_method_4_code
def yX5_paymentAt : MethodName := ⟨RX5, "paymentAt", "(II)I"⟩
abbrev cX5_profit : ByteArray := prog_7_method_5_code
def yX5_profit : MethodName := ⟨RX5, "profit", "(III)I"⟩
abbrev cX5_changeEnd : ByteArray := prog_7_method_6_code
def yX5_changeEnd : MethodName := ⟨RX5, "changeEnd", "(II)I"⟩
abbrev cX5_changePayment : ByteArray := prog_7_method_7_code
def yX5_changePayment : MethodName := ⟨RX5, "changePayment", "(III)I"⟩
abbrev cX5_changeGift : ByteArray := prog_7_method_8_code
def yX5_changeGift : MethodName := ⟨RX5, "changeGift", "(II)I"⟩
abbrev cX5_changeWeight : ByteArray := prog_7_method_9_code
def yX5_changeWeight : MethodName := ⟨RX5, "changeWeight", "(II)I"⟩
abbrev cX5_changePlace : ByteArray := prog_7_method_10_code
def yX5_changePlace : MethodName := ⟨RX5, "changePlace", "(II)I"⟩
abbrev cX5_heft : ByteArray := prog_7_method_11_code
def yX5_heft : MethodName := ⟨RX5, "heft", "()I"⟩
abbrev cX5_fail : ByteArray := prog_7_method_12_code
def yX5_fail : MethodName := ⟨RX5, "fail", "()V"⟩
def RX6 : String := "HonestHouse$Ways"
def TX6 : u_T := fun k => match k with
  | 0 => ("HonestHouse$Ways", "wishes", "LHonestHouse$Wishes;", true)
  | 1 => ("HonestHouse$Ways", "comes", "[Z", true)
  | 2 => ("HonestHouse$Ways", "lengths", "[I", true)
  | 3 => ("HonestHouse$Ways", "shortest", "[I", true)
  | _ => ("HonestHouse$Ways", "tours", "[I", true)
def tyX6 : Nat → FieldType := fun k => match k with
  | 0 => .object "HonestHouse$Wishes"
  | 1 => .array .boolean
  | 2 => .array .int
  | 3 => .array .int
  | _ => .array .int
abbrev wsX60 : List Cond := u_ws RX6 TX6 5
theorem nmX6 : ∀ a, a < 5 → ∀ b, b < 5 → a ≠ b → (TX6 a).2.1 ≠ (TX6 b).2.1 := by decide +kernel
theorem tyX6_ok : ∀ k, k < 5 → parseFieldDescriptor (TX6 k).2.2.1 = some (tyX6 k) := by decide +kernel
abbrev cX6_init : ByteArray := prog_8_method_1_code
def yX6_init : MethodName := ⟨RX6, "<init>", "(LHonestHouse$Wishes;)V"⟩
abbrev cX6_look : ByteArray := prog_8_method_2_code
def yX6_look : MethodName := ⟨RX6, "look", "(LHonestHouse$Table;II)V"⟩
abbrev cX6_measure : ByteArray := prog_8_method_3_code
def yX6_measure : MethodName := ⟨RX6, "measure", "(II)V"⟩
abbrev cX6_lengthOf : ByteArray := prog_8_method_4_code
def yX6_lengthOf : MethodName := ⟨RX6, "lengthOf", "(II)I"⟩
abbrev cX6_hasRound : ByteArray := prog_8_method_5_code
def yX6_hasRound : MethodName := ⟨RX6, "hasRound", "()Z"⟩
abbrev cX6_shorten : ByteArray := prog_8_method_6_code
def yX6_shorten : MethodName := ⟨RX6, "shorten", "()V"⟩
abbrev cX6_shortenFrom : ByteArray := prog_8_method_7_code
def yX6_shortenFrom : MethodName := ⟨RX6, "shortenFrom", "(II)V"⟩
abbrev cX6_priceOf : ByteArray := prog_8_method_8_code
def yX6_priceOf : MethodName := ⟨RX6, "priceOf", "(I)I"⟩
abbrev cX6_leastRound : ByteArray := prog_8_method_9_code
def yX6_leastRound : MethodName := ⟨RX6, "leastRound", "()I"⟩
abbrev cX6_leastRoundFrom : ByteArray := prog_8_method_10_code
def yX6_leastRoundFrom : MethodName := ⟨RX6, "leastRoundFrom", "(I)I"⟩
abbrev cX6_goOn : ByteArray := prog_8_method_11_code
def yX6_goOn : MethodName := ⟨RX6, "goOn", "(III)V"⟩
def RX7 : String := "HonestHouse$Weighed"
def TX7 : u_T := fun k => match k with
  | 0 => ("HonestHouse$Paid", "payments", "[I", true)
  | 1 => ("HonestHouse$Table", "number", "I", true)
  | 2 => ("HonestHouse$Table", "wishes", "LHonestHouse$Wishes;", true)
  | 3 => ("HonestHouse$Table", "endOf", "[I", true)
  | 4 => ("HonestHouse$Weighed", "gifts", "[I", true)
  | 5 => ("HonestHouse$Weighed", "weights", "[I", true)
  | _ => ("HonestHouse$Weighed", "sums", "[I", true)
def tyX7 : Nat → FieldType := fun k => match k with
  | 0 => .array .int
  | 1 => .int
  | 2 => .object "HonestHouse$Wishes"
  | 3 => .array .int
  | 4 => .array .int
  | 5 => .array .int
  | _ => .array .int
abbrev wsX70 : List Cond := u_ws RX7 TX7 7
theorem nmX7 : ∀ a, a < 7 → ∀ b, b < 7 → a ≠ b → (TX7 a).2.1 ≠ (TX7 b).2.1 := by decide +kernel
theorem tyX7_ok : ∀ k, k < 7 → parseFieldDescriptor (TX7 k).2.2.1 = some (tyX7 k) := by decide +kernel
abbrev cX7_init : ByteArray := prog_9_method_1_code
def yX7_init : MethodName := ⟨RX7, "<init>", "(ILHonestHouse$Wishes;)V"⟩
abbrev cX7_settle : ByteArray := prog_9_method_2_code
def yX7_settle : MethodName := ⟨RX7, "settle", "(I)V"⟩
abbrev cX7_changeEnd : ByteArray := prog_9_method_3_code
def yX7_changeEnd : MethodName := ⟨RX7, "changeEnd", "(II)I"⟩
abbrev cX7_changePayment : ByteArray := prog_9_method_4_code
def yX7_changePayment : MethodName := ⟨RX7, "changePayment", "(III)I"⟩
abbrev cX7_changeGift : ByteArray := prog_9_method_5_code
def yX7_changeGift : MethodName := ⟨RX7, "changeGift", "(II)I"⟩
abbrev cX7_changeWeight : ByteArray := prog_9_method_6_code
def yX7_changeWeight : MethodName := ⟨RX7, "changeWeight", "(II)I"⟩
abbrev cX7_change : ByteArray := prog_9_method_7_code
def yX7_change : MethodName := ⟨RX7, "change", "([III)I"⟩
abbrev cX7_workOut : ByteArray := prog_9_method_8_code
def yX7_workOut : MethodName := ⟨RX7, "workOut", "(I)V"⟩
abbrev cX7_addUp : ByteArray := prog_9_method_9_code
def yX7_addUp : MethodName := ⟨RX7, "addUp", "(I)V"⟩
abbrev cX7_ownPayment : ByteArray := prog_9_method_10_code
def yX7_ownPayment : MethodName := ⟨RX7, "ownPayment", "(III)I"⟩
abbrev cX7_heft : ByteArray := prog_9_method_11_code
def yX7_heft : MethodName := ⟨RX7, "heft", "()I"⟩
def RX8 : String := "HonestHouse$Wishes"
def TX8 : u_T := fun k => match k with
  | 0 => ("HonestHouse$Wishes", "people", "I", true)
  | 1 => ("HonestHouse$Wishes", "ends", "I", true)
  | 2 => ("HonestHouse$Wishes", "numbers", "[I", true)
  | 3 => ("HonestHouse$Wishes", "power", "[I", true)
  | 4 => ("HonestHouse$Wishes", "count", "I", false)
  | _ => ("HonestHouse$Wishes", "rows", "I", false)
def tyX8 : Nat → FieldType := fun k => match k with
  | 0 => .int
  | 1 => .int
  | 2 => .array .int
  | 3 => .array .int
  | 4 => .int
  | _ => .int
abbrev wsX80 : List Cond := u_ws RX8 TX8 6
theorem nmX8 : ∀ a, a < 6 → ∀ b, b < 6 → a ≠ b → (TX8 a).2.1 ≠ (TX8 b).2.1 := by decide +kernel
theorem tyX8_ok : ∀ k, k < 6 → parseFieldDescriptor (TX8 k).2.2.1 = some (tyX8 k) := by decide +kernel
abbrev cX8_init : ByteArray := prog_10_method_1_code
def yX8_init : MethodName := ⟨RX8, "<init>", "(II)V"⟩
abbrev cX8_come : ByteArray := prog_10_method_2_code
def yX8_come : MethodName := ⟨RX8, "come", "()I"⟩
abbrev cX8_number : ByteArray := prog_10_method_3_code
def yX8_number : MethodName := ⟨RX8, "number", "(II)I"⟩
abbrev cX8_changeNumber : ByteArray := prog_10_method_4_code
def yX8_changeNumber : MethodName := ⟨RX8, "changeNumber", "(III)I"⟩
abbrev cX8_wishIn : ByteArray := prog_10_method_5_code
def yX8_wishIn : MethodName := ⟨RX8, "wishIn", "(II)I"⟩
abbrev cX8_rowSaying : ByteArray := prog_10_method_6_code
def yX8_rowSaying : MethodName := ⟨RX8, "rowSaying", "(III)I"⟩
abbrev cX8_top : ByteArray := prog_10_method_7_code
def yX8_top : MethodName := ⟨RX8, "top", "(I)I"⟩
def RX9 : String := "HonestHouse"
def TX9 : u_T := fun k => match k with
  | 0 => ("HonestHouse", "people", "I", true)
  | 1 => ("HonestHouse", "ends", "I", true)
  | 2 => ("HonestHouse", "wishes", "LHonestHouse$Wishes;", true)
  | 3 => ("HonestHouse", "rules", "[LHonestHouse$Table;", true)
  | 4 => ("HonestHouse", "ruleCount", "I", false)
  | 5 => ("HonestHouse", "plotters", "LHonestHouse$Heap;", true)
  | 6 => ("HonestHouse", "ways", "LHonestHouse$Ways;", true)
  | 7 => ("HonestHouse", "market", "LHonestHouse$Market;", true)
  | _ => ("HonestHouse", "shelves", "[LHonestHouse$Shelf;", true)
def tyX9 : Nat → FieldType := fun k => match k with
  | 0 => .int
  | 1 => .int
  | 2 => .object "HonestHouse$Wishes"
  | 3 => .array (.object "HonestHouse$Table")
  | 4 => .int
  | 5 => .object "HonestHouse$Heap"
  | 6 => .object "HonestHouse$Ways"
  | 7 => .object "HonestHouse$Market"
  | _ => .array (.object "HonestHouse$Shelf")
abbrev wsX90 : List Cond := u_ws RX9 TX9 9
theorem nmX9 : ∀ a, a < 9 → ∀ b, b < 9 → a ≠ b → (TX9 a).2.1 ≠ (TX9 b).2.1 := by decide +kernel
theorem tyX9_ok : ∀ k, k < 9 → parseFieldDescriptor (TX9 k).2.2.1 = some (tyX9 k) := by decide +kernel
abbrev cX9_init : ByteArray := prog_1_method_1_code
def yX9_init : MethodName := ⟨RX9, "<init>", "(II)V"⟩
abbrev cX9_wish : ByteArray := prog_1_method_2_code
def yX9_wish : MethodName := ⟨RX9, "wish", "()I"⟩
abbrev cX9_worth : ByteArray := prog_1_method_3_code
def yX9_worth : MethodName := ⟨RX9, "worth", "(III)I"⟩
abbrev cX9_rule : ByteArray := prog_1_method_4_code
def yX9_rule : MethodName := ⟨RX9, "rule", "(I)I"⟩
abbrev cX9_put : ByteArray := prog_1_method_5_code
def yX9_put : MethodName := ⟨RX9, "put", "(III)I"⟩
abbrev cX9_pay : ByteArray := prog_1_method_6_code
def yX9_pay : MethodName := ⟨RX9, "pay", "(IIII)I"⟩
abbrev cX9_gift : ByteArray := prog_1_method_7_code
def yX9_gift : MethodName := ⟨RX9, "gift", "(IIII)I"⟩
abbrev cX9_middle : ByteArray := prog_1_method_8_code
def yX9_middle : MethodName := ⟨RX9, "middle", "(III)I"⟩
abbrev cX9_end : ByteArray := prog_1_method_9_code
def yX9_end : MethodName := ⟨RX9, "end", "(II)I"⟩
abbrev cX9_pays : ByteArray := prog_1_method_10_code
def yX9_pays : MethodName := ⟨RX9, "pays", "(III)I"⟩
abbrev cX9_said : ByteArray := prog_1_method_11_code
def yX9_said : MethodName := ⟨RX9, "said", "(III)I"⟩
abbrev cX9_gain : ByteArray := prog_1_method_12_code
def yX9_gain : MethodName := ⟨RX9, "gain", "(IIII)I"⟩
abbrev cX9_lie : ByteArray := prog_1_method_13_code
def yX9_lie : MethodName := ⟨RX9, "lie", "(II)I"⟩
abbrev cX9_lies : ByteArray := prog_1_method_14_code
def yX9_lies : MethodName := ⟨RX9, "lies", "(I)I"⟩
abbrev cX9_heap : ByteArray := prog_1_method_15_code
def yX9_heap : MethodName := ⟨RX9, "heap", "(IIZ)I"⟩
abbrev cX9_onto : ByteArray := prog_1_method_16_code
def yX9_onto : MethodName := ⟨RX9, "onto", "(I)I"⟩
abbrev cX9_dictator : ByteArray := prog_1_method_17_code
def yX9_dictator : MethodName := ⟨RX9, "dictator", "(I)I"⟩
abbrev cX9_budget : ByteArray := prog_1_method_18_code
def yX9_budget : MethodName := ⟨RX9, "budget", "(IZ)J"⟩
abbrev cX9_welfare : ByteArray := prog_1_method_19_code
def yX9_welfare : MethodName := ⟨RX9, "welfare", "(I)J"⟩
abbrev cX9_span : ByteArray := prog_1_method_20_code
def yX9_span : MethodName := ⟨RX9, "span", "(IIIII)I"⟩
abbrev cX9_round : ByteArray := prog_1_method_21_code
def yX9_round : MethodName := ⟨RX9, "round", "(II)I"⟩
abbrev cX9_price : ByteArray := prog_1_method_22_code
def yX9_price : MethodName := ⟨RX9, "price", "(IIII)I"⟩
abbrev cX9_honest : ByteArray := prog_1_method_23_code
def yX9_honest : MethodName := ⟨RX9, "honest", "(I)I"⟩
abbrev cX9_same : ByteArray := prog_1_method_24_code
def yX9_same : MethodName := ⟨RX9, "same", "(II)I"⟩
abbrev cX9_fair : ByteArray := prog_1_method_25_code
def yX9_fair : MethodName := ⟨RX9, "fair", "(I)I"⟩
abbrev cX9_likes : ByteArray := prog_1_method_26_code
def yX9_likes : MethodName := ⟨RX9, "likes", "(II)I"⟩
abbrev cX9_rings : ByteArray := prog_1_method_27_code
def yX9_rings : MethodName := ⟨RX9, "rings", "()I"⟩
abbrev cX9_leaves : ByteArray := prog_1_method_28_code
def yX9_leaves : MethodName := ⟨RX9, "leaves", "(I)I"⟩
abbrev cX9_turns : ByteArray := prog_1_method_29_code
def yX9_turns : MethodName := ⟨RX9, "turns", "(I)I"⟩
abbrev cX9_blocks : ByteArray := prog_1_method_30_code
def yX9_blocks : MethodName := ⟨RX9, "blocks", "(I)I"⟩
abbrev cX9_core : ByteArray := prog_1_method_31_code
def yX9_core : MethodName := ⟨RX9, "core", "(I)I"⟩
abbrev cX9_good : ByteArray := prog_1_method_32_code
def yX9_good : MethodName := ⟨RX9, "good", "(I)I"⟩
abbrev cX9_by : ByteArray := prog_1_method_33_code
def yX9_by : MethodName := ⟨RX9, "by", "(I)I"⟩
abbrev cX9_wrong : ByteArray := prog_1_method_34_code
def yX9_wrong : MethodName := ⟨RX9, "wrong", "(I)I"⟩
abbrev cX9_count : ByteArray := prog_1_method_35_code
def yX9_count : MethodName := ⟨RX9, "count", "(I)I"⟩
abbrev cX9_keep : ByteArray := prog_1_method_36_code
def yX9_keep : MethodName := ⟨RX9, "keep", "(III)I"⟩
abbrev cX9_make : ByteArray := prog_1_method_37_code
def yX9_make : MethodName := ⟨RX9, "make", "(III)I"⟩
abbrev cX9_element : ByteArray := prog_1_method_38_code
def yX9_element : MethodName := ⟨RX9, "element", "(II)J"⟩
abbrev cX9_copy : ByteArray := prog_1_method_39_code
def yX9_copy : MethodName := ⟨RX9, "copy", "(IIIII)I"⟩
abbrev cX9_weight : ByteArray := prog_1_method_40_code
def yX9_weight : MethodName := ⟨RX9, "weight", "(I)I"⟩
abbrev cX9_toss : ByteArray := prog_1_method_41_code
def yX9_toss : MethodName := ⟨RX9, "toss", "(I)I"⟩
abbrev cX9_isWithin : ByteArray := prog_1_method_42_code
def yX9_isWithin : MethodName := ⟨RX9, "isWithin", "(III)Z"⟩
abbrev cX9_isPerson : ByteArray := prog_1_method_43_code
def yX9_isPerson : MethodName := ⟨RX9, "isPerson", "(I)Z"⟩
abbrev cX9_isEnd : ByteArray := prog_1_method_44_code
def yX9_isEnd : MethodName := ⟨RX9, "isEnd", "(I)Z"⟩
abbrev cX9_isWish : ByteArray := prog_1_method_45_code
def yX9_isWish : MethodName := ⟨RX9, "isWish", "(I)Z"⟩
abbrev cX9_isRow : ByteArray := prog_1_method_46_code
def yX9_isRow : MethodName := ⟨RX9, "isRow", "(I)Z"⟩
abbrev cX9_ruleAt : ByteArray := prog_1_method_47_code
def yX9_ruleAt : MethodName := ⟨RX9, "ruleAt", "(I)LHonestHouse$Table;"⟩
abbrev cX9_settledRule : ByteArray := prog_1_method_48_code
def yX9_settledRule : MethodName := ⟨RX9, "settledRule", "(I)LHonestHouse$Table;"⟩
abbrev cX9_settleFor : ByteArray := prog_1_method_49_code
def yX9_settleFor : MethodName := ⟨RX9, "settleFor", "(LHonestHouse$Table;II)V"⟩
abbrev cX9_shelfAt : ByteArray := prog_1_method_50_code
def yX9_shelfAt : MethodName := ⟨RX9, "shelfAt", "(I)LHonestHouse$Shelf;"⟩
abbrev cX9_newRule : ByteArray := prog_1_method_51_code
def yX9_newRule : MethodName := ⟨RX9, "newRule", "(IILHonestHouse$Wishes;)LHonestHouse$Table;"⟩
abbrev cX9_add : ByteArray := prog_1_method_52_code
def yX9_add : MethodName := ⟨RX9, "add", "(LHonestHouse$Table;)I"⟩
abbrev cX9_pricedRule : ByteArray := prog_1_method_53_code
def yX9_pricedRule : MethodName := ⟨RX9, "pricedRule", "(LHonestHouse$Table;)LHonestHouse$Table;"⟩
abbrev cX9_payPrices : ByteArray := prog_1_method_54_code
def yX9_payPrices : MethodName := ⟨RX9, "payPrices", "(LHonestHouse$Paid;II)V"⟩
abbrev cX9_firstLie : ByteArray := prog_1_method_55_code
def yX9_firstLie : MethodName := ⟨RX9, "firstLie", "(LHonestHouse$Table;I)I"⟩
abbrev cX9_partOfLie : ByteArray := prog_1_method_56_code
def yX9_partOfLie : MethodName := ⟨RX9, "partOfLie", "(IIIII)I"⟩
abbrev cX9_liesAt : ByteArray := prog_1_method_57_code
def yX9_liesAt : MethodName := ⟨RX9, "liesAt", "(LHonestHouse$Table;II)I"⟩
abbrev cX9_isDictator : ByteArray := prog_1_method_58_code
def yX9_isDictator : MethodName := ⟨RX9, "isDictator", "(LHonestHouse$Table;I)Z"⟩
abbrev cX9_paidByAll : ByteArray := prog_1_method_59_code
def yX9_paidByAll : MethodName := ⟨RX9, "paidByAll", "(LHonestHouse$Table;I)I"⟩
abbrev cX9_isSameAt : ByteArray := prog_1_method_60_code
def yX9_isSameAt : MethodName := ⟨RX9, "isSameAt", "(LHonestHouse$Table;LHonestHouse$Table;I)Z"⟩
abbrev cX9_isFairAt : ByteArray := prog_1_method_61_code
def yX9_isFairAt : MethodName := ⟨RX9, "isFairAt", "(LHonestHouse$Table;I)Z"⟩
abbrev cX9_firstRound : ByteArray := prog_1_method_62_code
def yX9_firstRound : MethodName := ⟨RX9, "firstRound", "(LHonestHouse$Table;I)I"⟩
abbrev cX9_isRoundAt : ByteArray := prog_1_method_63_code
def yX9_isRoundAt : MethodName := ⟨RX9, "isRoundAt", "(LHonestHouse$Table;II)Z"⟩
abbrev cX9_partOfRound : ByteArray := prog_1_method_64_code
def yX9_partOfRound : MethodName := ⟨RX9, "partOfRound", "(III)I"⟩
abbrev cX9_keepRule : ByteArray := prog_1_method_65_code
def yX9_keepRule : MethodName := ⟨RX9, "keepRule", "(LHonestHouse$Shelf;I)I"⟩
abbrev cX9_keepEnds : ByteArray := prog_1_method_66_code
def yX9_keepEnds : MethodName := ⟨RX9, "keepEnds", "(LHonestHouse$Shelf;I)I"⟩
abbrev cX9_keepNumbers : ByteArray := prog_1_method_67_code
def yX9_keepNumbers : MethodName := ⟨RX9, "keepNumbers", "(LHonestHouse$Shelf;I)I"⟩
abbrev cX9_refusalOfRule : ByteArray := prog_1_method_68_code
def yX9_refusalOfRule : MethodName := ⟨RX9, "refusalOfRule", "(LHonestHouse$Shelf;)I"⟩
abbrev cX9_numberOfFailure : ByteArray := prog_1_method_69_code
def yX9_numberOfFailure : MethodName := ⟨RX9, "numberOfFailure", "(LHonestHouse$Table;)I"⟩
def RX10 : String := "HonestHouseModel"
def TX10 : u_T := fun k => match k with
  | 0 => ("HonestHouseModel", "n", "I", true)
  | 1 => ("HonestHouseModel", "m", "I", true)
  | 2 => ("HonestHouseModel", "wishes", "I", false)
  | 3 => ("HonestHouseModel", "rules", "I", false)
  | 4 => ("HonestHouseModel", "rows", "I", false)
  | 5 => ("HonestHouseModel", "number", "[I", true)
  | 6 => ("HonestHouseModel", "power", "[I", true)
  | 7 => ("HonestHouseModel", "kind", "[I", true)
  | 8 => ("HonestHouseModel", "endOf", "[I", true)
  | 9 => ("HonestHouseModel", "payOf", "[I", true)
  | 10 => ("HonestHouseModel", "giftOf", "[I", true)
  | 11 => ("HonestHouseModel", "weightOf", "[I", true)
  | 12 => ("HonestHouseModel", "placeOf", "[I", true)
  | 13 => ("HonestHouseModel", "thrown", "I", false)
  | 14 => ("HonestHouseModel", "allEnds", "[I", true)
  | 15 => ("HonestHouseModel", "allPays", "[I", true)
  | 16 => ("HonestHouseModel", "comes", "[Z", true)
  | 17 => ("HonestHouseModel", "length", "[I", true)
  | 18 => ("HonestHouseModel", "prices", "[I", true)
  | 19 => ("HonestHouseModel", "likes", "[I", true)
  | 20 => ("HonestHouseModel", "things", "[I", true)
  | 21 => ("HonestHouseModel", "others", "[I", true)
  | 22 => ("HonestHouseModel", "round", "[I", true)
  | 23 => ("HonestHouseModel", "turnsOf", "[I", true)
  | 24 => ("HonestHouseModel", "trade", "[I", true)
  | 25 => ("HonestHouseModel", "holds", "[I", true)
  | 26 => ("HonestHouseModel", "sizes", "[I", true)
  | 27 => ("HonestHouseModel", "heldKind", "[I", true)
  | 28 => ("HonestHouseModel", "heldNumber", "[I", true)
  | 29 => ("HonestHouseModel", "heldSum", "[I", true)
  | 30 => ("HonestHouseModel", "elements", "[J", true)
  | _ => ("HonestHouseModel", "moved", "[J", true)
def tyX10 : Nat → FieldType := fun k => match k with
  | 0 => .int
  | 1 => .int
  | 2 => .int
  | 3 => .int
  | 4 => .int
  | 5 => .array .int
  | 6 => .array .int
  | 7 => .array .int
  | 8 => .array .int
  | 9 => .array .int
  | 10 => .array .int
  | 11 => .array .int
  | 12 => .array .int
  | 13 => .int
  | 14 => .array .int
  | 15 => .array .int
  | 16 => .array .boolean
  | 17 => .array .int
  | 18 => .array .int
  | 19 => .array .int
  | 20 => .array .int
  | 21 => .array .int
  | 22 => .array .int
  | 23 => .array .int
  | 24 => .array .int
  | 25 => .array .int
  | 26 => .array .int
  | 27 => .array .int
  | 28 => .array .int
  | 29 => .array .int
  | 30 => .array .long
  | _ => .array .long
abbrev wsX100 : List Cond := u_ws RX10 TX10 32
theorem nmX10 : ∀ a, a < 32 → ∀ b, b < 32 → a ≠ b → (TX10 a).2.1 ≠ (TX10 b).2.1 := by decide +kernel
theorem tyX10_ok : ∀ k, k < 32 → parseFieldDescriptor (TX10 k).2.2.1 = some (tyX10 k) := by decide +kernel
abbrev cX10_init : ByteArray := prog_12_method_1_code
def yX10_init : MethodName := ⟨RX10, "<init>", "(II)V"⟩
abbrev cX10_thrown : ByteArray := prog_12_method_2_code
def yX10_thrown : MethodName := ⟨RX10, "thrown", "()I"⟩
abbrev cX10_raises : ByteArray := prog_12_method_3_code
def yX10_raises : MethodName := ⟨RX10, "raises", "(I)I"⟩
abbrev cX10_isIn : ByteArray := prog_12_method_4_code
def yX10_isIn : MethodName := ⟨RX10, "isIn", "(II)Z"⟩
abbrev cX10_counts : ByteArray := prog_12_method_5_code
def yX10_counts : MethodName := ⟨RX10, "counts", "()V"⟩
abbrev cX10_wish : ByteArray := prog_12_method_6_code
def yX10_wish : MethodName := ⟨RX10, "wish", "()I"⟩
abbrev cX10_worth : ByteArray := prog_12_method_7_code
def yX10_worth : MethodName := ⟨RX10, "worth", "(III)I"⟩
abbrev cX10_rule : ByteArray := prog_12_method_8_code
def yX10_rule : MethodName := ⟨RX10, "rule", "(I)I"⟩
abbrev cX10_isRow : ByteArray := prog_12_method_9_code
def yX10_isRow : MethodName := ⟨RX10, "isRow", "(II)Z"⟩
abbrev cX10_put : ByteArray := prog_12_method_10_code
def yX10_put : MethodName := ⟨RX10, "put", "(III)I"⟩
abbrev cX10_pay : ByteArray := prog_12_method_11_code
def yX10_pay : MethodName := ⟨RX10, "pay", "(IIII)I"⟩
abbrev cX10_gift : ByteArray := prog_12_method_12_code
def yX10_gift : MethodName := ⟨RX10, "gift", "(IIII)I"⟩
abbrev cX10_middle : ByteArray := prog_12_method_13_code
def yX10_middle : MethodName := ⟨RX10, "middle", "(III)I"⟩
abbrev cX10_wishOf : ByteArray := prog_12_method_14_code
def yX10_wishOf : MethodName := ⟨RX10, "wishOf", "(II)I"⟩
abbrev cX10_saying : ByteArray := prog_12_method_15_code
def yX10_saying : MethodName := ⟨RX10, "saying", "(III)I"⟩
abbrev cX10_sumOf : ByteArray := prog_12_method_16_code
def yX10_sumOf : MethodName := ⟨RX10, "sumOf", "(IIII)I"⟩
abbrev cX10_greatest : ByteArray := prog_12_method_17_code
def yX10_greatest : MethodName := ⟨RX10, "greatest", "(III)I"⟩
abbrev cX10_top : ByteArray := prog_12_method_18_code
def yX10_top : MethodName := ⟨RX10, "top", "(I)I"⟩
abbrev cX10_middleOf : ByteArray := prog_12_method_19_code
def yX10_middleOf : MethodName := ⟨RX10, "middleOf", "(II)I"⟩
abbrev cX10_ends : ByteArray := prog_12_method_20_code
def yX10_ends : MethodName := ⟨RX10, "ends", "(II)I"⟩
abbrev cX10_paysOf : ByteArray := prog_12_method_21_code
def yX10_paysOf : MethodName := ⟨RX10, "paysOf", "(III)I"⟩
abbrev cX10_end : ByteArray := prog_12_method_22_code
def yX10_end : MethodName := ⟨RX10, "end", "(II)I"⟩
abbrev cX10_pays : ByteArray := prog_12_method_23_code
def yX10_pays : MethodName := ⟨RX10, "pays", "(III)I"⟩
abbrev cX10_said : ByteArray := prog_12_method_24_code
def yX10_said : MethodName := ⟨RX10, "said", "(III)I"⟩
abbrev cX10_worthOf : ByteArray := prog_12_method_25_code
def yX10_worthOf : MethodName := ⟨RX10, "worthOf", "(IIII)I"⟩
abbrev cX10_gainOf : ByteArray := prog_12_method_26_code
def yX10_gainOf : MethodName := ⟨RX10, "gainOf", "(IIII)I"⟩
abbrev cX10_gain : ByteArray := prog_12_method_27_code
def yX10_gain : MethodName := ⟨RX10, "gain", "(IIII)I"⟩
abbrev cX10_lie : ByteArray := prog_12_method_28_code
def yX10_lie : MethodName := ⟨RX10, "lie", "(II)I"⟩
abbrev cX10_lies : ByteArray := prog_12_method_29_code
def yX10_lies : MethodName := ⟨RX10, "lies", "(I)I"⟩
abbrev cX10_reckon : ByteArray := prog_12_method_30_code
def yX10_reckon : MethodName := ⟨RX10, "reckon", "(I)V"⟩
abbrev cX10_gains : ByteArray := prog_12_method_31_code
def yX10_gains : MethodName := ⟨RX10, "gains", "(III)Z"⟩
abbrev cX10_heap : ByteArray := prog_12_method_32_code
def yX10_heap : MethodName := ⟨RX10, "heap", "(IIZ)I"⟩
abbrev cX10_onto : ByteArray := prog_12_method_33_code
def yX10_onto : MethodName := ⟨RX10, "onto", "(I)I"⟩
abbrev cX10_dictator : ByteArray := prog_12_method_34_code
def yX10_dictator : MethodName := ⟨RX10, "dictator", "(I)I"⟩
abbrev cX10_budget : ByteArray := prog_12_method_35_code
def yX10_budget : MethodName := ⟨RX10, "budget", "(IZ)J"⟩
abbrev cX10_welfare : ByteArray := prog_12_method_36_code
def yX10_welfare : MethodName := ⟨RX10, "welfare", "(I)J"⟩
abbrev cX10_measure : ByteArray := prog_12_method_37_code
def yX10_measure : MethodName := ⟨RX10, "measure", "(III)V"⟩
abbrev cX10_leastRound : ByteArray := prog_12_method_38_code
def yX10_leastRound : MethodName := ⟨RX10, "leastRound", "(IIII)I"⟩
abbrev cX10_least : ByteArray := prog_12_method_39_code
def yX10_least : MethodName := ⟨RX10, "least", "()I"⟩
abbrev cX10_span : ByteArray := prog_12_method_40_code
def yX10_span : MethodName := ⟨RX10, "span", "(IIIII)I"⟩
abbrev cX10_round : ByteArray := prog_12_method_41_code
def yX10_round : MethodName := ⟨RX10, "round", "(II)I"⟩
abbrev cX10_priceAll : ByteArray := prog_12_method_42_code
def yX10_priceAll : MethodName := ⟨RX10, "priceAll", "()V"⟩
abbrev cX10_price : ByteArray := prog_12_method_43_code
def yX10_price : MethodName := ⟨RX10, "price", "(IIII)I"⟩
abbrev cX10_honest : ByteArray := prog_12_method_44_code
def yX10_honest : MethodName := ⟨RX10, "honest", "(I)I"⟩
abbrev cX10_same : ByteArray := prog_12_method_45_code
def yX10_same : MethodName := ⟨RX10, "same", "(II)I"⟩
abbrev cX10_fair : ByteArray := prog_12_method_46_code
def yX10_fair : MethodName := ⟨RX10, "fair", "(I)I"⟩
abbrev cX10_digits : ByteArray := prog_12_method_47_code
def yX10_digits : MethodName := ⟨RX10, "digits", "(I[I)Z"⟩
abbrev cX10_code : ByteArray := prog_12_method_48_code
def yX10_code : MethodName := ⟨RX10, "code", "([I)I"⟩
abbrev cX10_place : ByteArray := prog_12_method_49_code
def yX10_place : MethodName := ⟨RX10, "place", "(II)I"⟩
abbrev cX10_likes : ByteArray := prog_12_method_50_code
def yX10_likes : MethodName := ⟨RX10, "likes", "(II)I"⟩
abbrev cX10_best : ByteArray := prog_12_method_51_code
def yX10_best : MethodName := ⟨RX10, "best", "(II)I"⟩
abbrev cX10_ring : ByteArray := prog_12_method_52_code
def yX10_ring : MethodName := ⟨RX10, "ring", "()V"⟩
abbrev cX10_rings : ByteArray := prog_12_method_53_code
def yX10_rings : MethodName := ⟨RX10, "rings", "()I"⟩
abbrev cX10_leaves : ByteArray := prog_12_method_54_code
def yX10_leaves : MethodName := ⟨RX10, "leaves", "(I)I"⟩
abbrev cX10_turn : ByteArray := prog_12_method_55_code
def yX10_turn : MethodName := ⟨RX10, "turn", "()V"⟩
abbrev cX10_turns : ByteArray := prog_12_method_56_code
def yX10_turns : MethodName := ⟨RX10, "turns", "(I)I"⟩
abbrev cX10_isBetter : ByteArray := prog_12_method_57_code
def yX10_isBetter : MethodName := ⟨RX10, "isBetter", "(I[I[I)Z"⟩
abbrev cX10_last : ByteArray := prog_12_method_58_code
def yX10_last : MethodName := ⟨RX10, "last", "()I"⟩
abbrev cX10_isBeaten : ByteArray := prog_12_method_59_code
def yX10_isBeaten : MethodName := ⟨RX10, "isBeaten", "(I[I)Z"⟩
abbrev cX10_blocking : ByteArray := prog_12_method_60_code
def yX10_blocking : MethodName := ⟨RX10, "blocking", "([I)I"⟩
abbrev cX10_blocks : ByteArray := prog_12_method_61_code
def yX10_blocks : MethodName := ⟨RX10, "blocks", "(I)I"⟩
abbrev cX10_core : ByteArray := prog_12_method_62_code
def yX10_core : MethodName := ⟨RX10, "core", "(I)I"⟩
abbrev cX10_good : ByteArray := prog_12_method_63_code
def yX10_good : MethodName := ⟨RX10, "good", "(I)I"⟩
abbrev cX10_by : ByteArray := prog_12_method_64_code
def yX10_by : MethodName := ⟨RX10, "by", "(I)I"⟩
abbrev cX10_wrong : ByteArray := prog_12_method_65_code
def yX10_wrong : MethodName := ⟨RX10, "wrong", "(I)I"⟩
abbrev cX10_count : ByteArray := prog_12_method_66_code
def yX10_count : MethodName := ⟨RX10, "count", "(I)I"⟩
abbrev cX10_keep : ByteArray := prog_12_method_67_code
def yX10_keep : MethodName := ⟨RX10, "keep", "(III)I"⟩
abbrev cX10_make : ByteArray := prog_12_method_68_code
def yX10_make : MethodName := ⟨RX10, "make", "(III)I"⟩
abbrev cX10_element : ByteArray := prog_12_method_69_code
def yX10_element : MethodName := ⟨RX10, "element", "(II)J"⟩
abbrev cX10_copy : ByteArray := prog_12_method_70_code
def yX10_copy : MethodName := ⟨RX10, "copy", "(IIIII)I"⟩
abbrev cX10_wrongShelf : ByteArray := prog_12_method_71_code
def yX10_wrongShelf : MethodName := ⟨RX10, "wrongShelf", "(I)I"⟩
abbrev cX10_weight : ByteArray := prog_12_method_72_code
def yX10_weight : MethodName := ⟨RX10, "weight", "(I)I"⟩
abbrev cX10_toss : ByteArray := prog_12_method_73_code
def yX10_toss : MethodName := ⟨RX10, "toss", "(I)I"⟩
def RJ6 : String := "java/lang/Integer"
def TJ6 : u_T := fun k => match k with
  | _ => ("", "", "", false)
def tyJ6 : Nat → FieldType := fun k => match k with
  | _ => .int
abbrev wsJ60 : List Cond := u_ws RJ6 TJ6 0
theorem nmJ6 : ∀ a, a < 0 → ∀ b, b < 0 → a ≠ b → (TJ6 a).2.1 ≠ (TJ6 b).2.1 := by decide +kernel
theorem tyJ6_ok : ∀ k, k < 0 → parseFieldDescriptor (TJ6 k).2.2.1 = some (tyJ6 k) := by decide +kernel
abbrev cJ6_bitCount_0f7a4 : ByteArray := prog_16_method_49_code
def yJ6_bitCount_0f7a4 : MethodName := ⟨RJ6, "bitCount", "(I)I"⟩
def RJ9 : String := "java/lang/Math"
def TJ9 : u_T := fun k => match k with
  | _ => ("", "", "", false)
def tyJ9 : Nat → FieldType := fun k => match k with
  | _ => .int
abbrev wsJ90 : List Cond := u_ws RJ9 TJ9 0
theorem nmJ9 : ∀ a, a < 0 → ∀ b, b < 0 → a ≠ b → (TJ9 a).2.1 ≠ (TJ9 b).2.1 := by decide +kernel
theorem tyJ9_ok : ∀ k, k < 0 → parseFieldDescriptor (TJ9 k).2.2.1 = some (tyJ9 k) := by decide +kernel
abbrev cJ9_floorMod_7cf53 : ByteArray := prog_17_method_50_code
def yJ9_floorMod_7cf53 : MethodName := ⟨RJ9, "floorMod", "(II)I"⟩
abbrev cJ9_max_7cf53 : ByteArray := prog_17_method_65_code
def yJ9_max_7cf53 : MethodName := ⟨RJ9, "max", "(II)I"⟩
abbrev cJ9_min_7cf53 : ByteArray := prog_17_method_69_code
def yJ9_min_7cf53 : MethodName := ⟨RJ9, "min", "(II)I"⟩
def RJ0 : String := "java/lang/String"
def TJ0 : u_T := fun k => match k with
  | _ => ("", "", "", false)
def tyJ0 : Nat → FieldType := fun k => match k with
  | _ => .int
abbrev wsJ00 : List Cond := u_ws RJ0 TJ0 0
theorem nmJ0 : ∀ a, a < 0 → ∀ b, b < 0 → a ≠ b → (TJ0 a).2.1 ≠ (TJ0 b).2.1 := by decide +kernel
theorem tyJ0_ok : ∀ k, k < 0 → parseFieldDescriptor (TJ0 k).2.2.1 = some (tyJ0 k) := by decide +kernel
def RJ10 : String := "java/lang/System"
def TJ10 : u_T := fun k => match k with
  | _ => ("", "", "", false)
def tyJ10 : Nat → FieldType := fun k => match k with
  | _ => .int
abbrev wsJ100 : List Cond := u_ws RJ10 TJ10 0
theorem nmJ10 : ∀ a, a < 0 → ∀ b, b < 0 → a ≠ b → (TJ10 a).2.1 ≠ (TJ10 b).2.1 := by decide +kernel
theorem tyJ10_ok : ∀ k, k < 0 → parseFieldDescriptor (TJ10 k).2.2.1 = some (tyJ10 k) := by decide +kernel
def RJ7 : String := "java/util/Arrays"
def TJ7 : u_T := fun k => match k with
  | _ => ("", "", "", false)
def tyJ7 : Nat → FieldType := fun k => match k with
  | _ => .int
abbrev wsJ70 : List Cond := u_ws RJ7 TJ7 0
theorem nmJ7 : ∀ a, a < 0 → ∀ b, b < 0 → a ≠ b → (TJ7 a).2.1 ≠ (TJ7 b).2.1 := by decide +kernel
theorem tyJ7_ok : ∀ k, k < 0 → parseFieldDescriptor (TJ7 k).2.2.1 = some (tyJ7 k) := by decide +kernel
abbrev cJ7_fill_d0a16 : ByteArray := prog_22_method_101_code
def yJ7_fill_d0a16 : MethodName := ⟨RJ7, "fill", "([JJ)V"⟩
abbrev cJ7_fill_53178 : ByteArray := prog_22_method_103_code
def yJ7_fill_53178 : MethodName := ⟨RJ7, "fill", "([II)V"⟩
def RL : String := "HonestHouseLaw"
abbrev cL_cell : ByteArray := method_2_code
def yL_cell : MethodName := ⟨RL, "cell", "([II)I"⟩
abbrev cL_pays : ByteArray := method_3_code
def yL_pays : MethodName := ⟨RL, "pays", "(LHonestHouse;III[J)I"⟩
abbrev cL_gain : ByteArray := method_4_code
def yL_gain : MethodName := ⟨RL, "gain", "(LHonestHouse;IIII[J)I"⟩
abbrev cL_budget : ByteArray := method_5_code
def yL_budget : MethodName := ⟨RL, "budget", "(LHonestHouse;IZ[J)I"⟩
abbrev cL_welfare : ByteArray := method_6_code
def yL_welfare : MethodName := ⟨RL, "welfare", "(LHonestHouse;I[J)I"⟩
abbrev cL_span : ByteArray := method_7_code
def yL_span : MethodName := ⟨RL, "span", "(LHonestHouse;IIIII[J)I"⟩
abbrev cL_price : ByteArray := method_8_code
def yL_price : MethodName := ⟨RL, "price", "(LHonestHouse;IIII[J)I"⟩
abbrev cL_element : ByteArray := method_9_code
def yL_element : MethodName := ⟨RL, "element", "(LHonestHouse;II[J)I"⟩
abbrev cL_law : ByteArray := code
def yL_law : MethodName := ⟨RL, "law", "([I)Z"⟩
end
section
theorem dX0_init_0 : decode cX0_init 0 = .ok (.aload_n 0, 1) := by decide +kernel
theorem dX0_init_1 : decode cX0_init 1 = .ok (.invokespecial 3, 3) := by decide +kernel
theorem dX0_init_4 : decode cX0_init 4 = .ok (.aload_n 0, 1) := by decide +kernel
theorem dX0_init_5 : decode cX0_init 5 = .ok (.aload_n 1, 1) := by decide +kernel
theorem dX0_init_6 : decode cX0_init 6 = .ok (.putfield 9, 3) := by decide +kernel
theorem dX0_init_9 : decode cX0_init 9 = .ok (.aload_n 0, 1) := by decide +kernel
theorem dX0_init_10 : decode cX0_init 10 = .ok (.bipush 20, 2) := by decide +kernel
theorem dX0_init_12 : decode cX0_init 12 = .ok (.newarray .int, 2) := by decide +kernel
theorem dX0_init_14 : decode cX0_init 14 = .ok (.putfield 15, 3) := by decide +kernel
theorem dX0_init_17 : decode cX0_init 17 = .ok (.aload_n 0, 1) := by decide +kernel
theorem dX0_init_18 : decode cX0_init 18 = .ok (.iconst 4, 1) := by decide +kernel
theorem dX0_init_19 : decode cX0_init 19 = .ok (.newarray .int, 2) := by decide +kernel
theorem dX0_init_21 : decode cX0_init 21 = .ok (.putfield 19, 3) := by decide +kernel
theorem dX0_init_24 : decode cX0_init 24 = .ok (.aload_n 0, 1) := by decide +kernel
theorem dX0_init_25 : decode cX0_init 25 = .ok (.iconst 4, 1) := by decide +kernel
theorem dX0_init_26 : decode cX0_init 26 = .ok (.newarray .int, 2) := by decide +kernel
theorem dX0_init_28 : decode cX0_init 28 = .ok (.putfield 22, 3) := by decide +kernel
theorem dX0_init_31 : decode cX0_init 31 = .ok (.return_, 1) := by decide +kernel
theorem dX0_firstRow_0 : decode cX0_firstRow 0 = .ok (.aload_n 0, 1) := by decide +kernel
theorem dX0_firstRow_1 : decode cX0_firstRow 1 = .ok (.iload_n 2, 1) := by decide +kernel
theorem dX0_firstRow_2 : decode cX0_firstRow 2 = .ok (.putfield 25, 3) := by decide +kernel
theorem dX0_firstRow_5 : decode cX0_firstRow 5 = .ok (.aload_n 0, 1) := by decide +kernel
theorem dX0_firstRow_6 : decode cX0_firstRow 6 = .ok (.aload_n 0, 1) := by decide +kernel
theorem dX0_firstRow_7 : decode cX0_firstRow 7 = .ok (.getfield 9, 3) := by decide +kernel
theorem dX0_firstRow_10 : decode cX0_firstRow 10 = .ok (.getfield 29, 3) := by decide +kernel
theorem dX0_firstRow_13 : decode cX0_firstRow 13 = .ok (.iload_n 2, 1) := by decide +kernel
theorem dX0_firstRow_14 : decode cX0_firstRow 14 = .ok (.invokestatic 34, 3) := by decide +kernel
theorem dX0_firstRow_17 : decode cX0_firstRow 17 = .ok (.aload_n 0, 1) := by decide +kernel
theorem dX0_firstRow_18 : decode cX0_firstRow 18 = .ok (.getfield 9, 3) := by decide +kernel
theorem dX0_firstRow_21 : decode cX0_firstRow 21 = .ok (.getfield 40, 3) := by decide +kernel
theorem dX0_firstRow_24 : decode cX0_firstRow 24 = .ok (.invokestatic 43, 3) := by decide +kernel
theorem dX0_firstRow_27 : decode cX0_firstRow 27 = .ok (.iaload, 1) := by decide +kernel
theorem dX0_firstRow_28 : decode cX0_firstRow 28 = .ok (.putfield 49, 3) := by decide +kernel
theorem dX0_firstRow_31 : decode cX0_firstRow 31 = .ok (.aload_n 0, 1) := by decide +kernel
theorem dX0_firstRow_32 : decode cX0_firstRow 32 = .ok (.getfield 9, 3) := by decide +kernel
theorem dX0_firstRow_35 : decode cX0_firstRow 35 = .ok (.getfield 52, 3) := by decide +kernel
theorem dX0_firstRow_38 : decode cX0_firstRow 38 = .ok (.istore_n 3, 1) := by decide +kernel
theorem dX0_firstRow_39 : decode cX0_firstRow 39 = .ok (.iconst 0, 1) := by decide +kernel
theorem dX0_firstRow_40 : decode cX0_firstRow 40 = .ok (.istore 4, 2) := by decide +kernel
theorem dX0_firstRow_42 : decode cX0_firstRow 42 = .ok (.iload 4, 2) := by decide +kernel
theorem dX0_firstRow_44 : decode cX0_firstRow 44 = .ok (.aload_n 0, 1) := by decide +kernel
theorem dX0_firstRow_45 : decode cX0_firstRow 45 = .ok (.getfield 9, 3) := by decide +kernel
theorem dX0_firstRow_48 : decode cX0_firstRow 48 = .ok (.getfield 52, 3) := by decide +kernel
theorem dX0_firstRow_51 : decode cX0_firstRow 51 = .ok (.if_icmp .ge 29, 3) := by decide +kernel
theorem dX0_firstRow_54 : decode cX0_firstRow 54 = .ok (.aload_n 0, 1) := by decide +kernel
theorem dX0_firstRow_55 : decode cX0_firstRow 55 = .ok (.iload 4, 2) := by decide +kernel
theorem dX0_firstRow_57 : decode cX0_firstRow 57 = .ok (.invokevirtual 55, 3) := by decide +kernel
theorem dX0_firstRow_60 : decode cX0_firstRow 60 = .ok (.iload 4, 2) := by decide +kernel
theorem dX0_firstRow_62 : decode cX0_firstRow 62 = .ok (.if_icmp .ne 12, 3) := by decide +kernel
theorem dX0_firstRow_65 : decode cX0_firstRow 65 = .ok (.aload_n 0, 1) := by decide +kernel
theorem dX0_firstRow_66 : decode cX0_firstRow 66 = .ok (.aload_n 1, 1) := by decide +kernel
theorem dX0_firstRow_67 : decode cX0_firstRow 67 = .ok (.iload 4, 2) := by decide +kernel
theorem dX0_firstRow_69 : decode cX0_firstRow 69 = .ok (.iload_n 3, 1) := by decide +kernel
theorem dX0_firstRow_70 : decode cX0_firstRow 70 = .ok (.invokevirtual 58, 3) := by decide +kernel
theorem dX0_firstRow_73 : decode cX0_firstRow 73 = .ok (.istore_n 3, 1) := by decide +kernel
theorem dX0_firstRow_74 : decode cX0_firstRow 74 = .ok (.iinc 4 1, 3) := by decide +kernel
theorem dX0_firstRow_77 : decode cX0_firstRow 77 = .ok (.goto (-35), 3) := by decide +kernel
theorem dX0_firstRow_80 : decode cX0_firstRow 80 = .ok (.iload_n 3, 1) := by decide +kernel
theorem dX0_firstRow_81 : decode cX0_firstRow 81 = .ok (.ireturn, 1) := by decide +kernel
theorem dX0_firstRowFrom_0 : decode cX0_firstRowFrom 0 = .ok (.aload_n 0, 1) := by decide +kernel
theorem dX0_firstRowFrom_1 : decode cX0_firstRowFrom 1 = .ok (.aload_n 1, 1) := by decide +kernel
theorem dX0_firstRowFrom_2 : decode cX0_firstRowFrom 2 = .ok (.iload_n 2, 1) := by decide +kernel
theorem dX0_firstRowFrom_3 : decode cX0_firstRowFrom 3 = .ok (.invokevirtual 62, 3) := by decide +kernel
theorem dX0_firstRowFrom_6 : decode cX0_firstRowFrom 6 = .ok (.iload_n 2, 1) := by decide +kernel
theorem dX0_firstRowFrom_7 : decode cX0_firstRowFrom 7 = .ok (.istore 4, 2) := by decide +kernel
theorem dX0_firstRowFrom_9 : decode cX0_firstRowFrom 9 = .ok (.iconst 0, 1) := by decide +kernel
theorem dX0_firstRowFrom_10 : decode cX0_firstRowFrom 10 = .ok (.istore 5, 2) := by decide +kernel
theorem dX0_firstRowFrom_12 : decode cX0_firstRowFrom 12 = .ok (.iload 5, 2) := by decide +kernel
theorem dX0_firstRowFrom_14 : decode cX0_firstRowFrom 14 = .ok (.aload_n 0, 1) := by decide +kernel
theorem dX0_firstRowFrom_15 : decode cX0_firstRowFrom 15 = .ok (.getfield 49, 3) := by decide +kernel
theorem dX0_firstRowFrom_18 : decode cX0_firstRowFrom 18 = .ok (.if_icmp .ge 49, 3) := by decide +kernel
theorem dX0_firstRowFrom_21 : decode cX0_firstRowFrom 21 = .ok (.iload 4, 2) := by decide +kernel
theorem dX0_firstRowFrom_23 : decode cX0_firstRowFrom 23 = .ok (.iload_n 3, 1) := by decide +kernel
theorem dX0_firstRowFrom_24 : decode cX0_firstRowFrom 24 = .ok (.if_icmp .ge 43, 3) := by decide +kernel
theorem dX0_firstRowFrom_27 : decode cX0_firstRowFrom 27 = .ok (.aload_n 0, 1) := by decide +kernel
theorem dX0_firstRowFrom_28 : decode cX0_firstRowFrom 28 = .ok (.aload_n 1, 1) := by decide +kernel
theorem dX0_firstRowFrom_29 : decode cX0_firstRowFrom 29 = .ok (.iload 4, 2) := by decide +kernel
theorem dX0_firstRowFrom_31 : decode cX0_firstRowFrom 31 = .ok (.invokevirtual 66, 3) := by decide +kernel
theorem dX0_firstRowFrom_34 : decode cX0_firstRowFrom 34 = .ok (.aload_n 0, 1) := by decide +kernel
theorem dX0_firstRowFrom_35 : decode cX0_firstRowFrom 35 = .ok (.invokevirtual 69, 3) := by decide +kernel
theorem dX0_firstRowFrom_38 : decode cX0_firstRowFrom 38 = .ok (.ifCond .eq 15, 3) := by decide +kernel
theorem dX0_firstRowFrom_41 : decode cX0_firstRowFrom 41 = .ok (.aload_n 0, 1) := by decide +kernel
theorem dX0_firstRowFrom_42 : decode cX0_firstRowFrom 42 = .ok (.aload_n 1, 1) := by decide +kernel
theorem dX0_firstRowFrom_43 : decode cX0_firstRowFrom 43 = .ok (.iload_n 2, 1) := by decide +kernel
theorem dX0_firstRowFrom_44 : decode cX0_firstRowFrom 44 = .ok (.invokevirtual 73, 3) := by decide +kernel
theorem dX0_firstRowFrom_47 : decode cX0_firstRowFrom 47 = .ok (.ifCond .lt 6, 3) := by decide +kernel
theorem dX0_firstRowFrom_50 : decode cX0_firstRowFrom 50 = .ok (.iload 4, 2) := by decide +kernel
theorem dX0_firstRowFrom_52 : decode cX0_firstRowFrom 52 = .ok (.ireturn, 1) := by decide +kernel
theorem dX0_firstRowFrom_53 : decode cX0_firstRowFrom 53 = .ok (.aload_n 0, 1) := by decide +kernel
theorem dX0_firstRowFrom_54 : decode cX0_firstRowFrom 54 = .ok (.iload 4, 2) := by decide +kernel
theorem dX0_firstRowFrom_56 : decode cX0_firstRowFrom 56 = .ok (.invokevirtual 77, 3) := by decide +kernel
theorem dX0_firstRowFrom_59 : decode cX0_firstRowFrom 59 = .ok (.istore 4, 2) := by decide +kernel
theorem dX0_firstRowFrom_61 : decode cX0_firstRowFrom 61 = .ok (.iinc 5 1, 3) := by decide +kernel
theorem dX0_firstRowFrom_64 : decode cX0_firstRowFrom 64 = .ok (.goto (-52), 3) := by decide +kernel
theorem dX0_firstRowFrom_67 : decode cX0_firstRowFrom 67 = .ok (.iload_n 3, 1) := by decide +kernel
theorem dX0_firstRowFrom_68 : decode cX0_firstRowFrom 68 = .ok (.ireturn, 1) := by decide +kernel
theorem dX0_leastSaid_0 : decode cX0_leastSaid 0 = .ok (.aload_n 0, 1) := by decide +kernel
theorem dX0_leastSaid_1 : decode cX0_leastSaid 1 = .ok (.aload_n 1, 1) := by decide +kernel
theorem dX0_leastSaid_2 : decode cX0_leastSaid 2 = .ok (.iload_n 2, 1) := by decide +kernel
theorem dX0_leastSaid_3 : decode cX0_leastSaid 3 = .ok (.invokevirtual 66, 3) := by decide +kernel
theorem dX0_leastSaid_6 : decode cX0_leastSaid 6 = .ok (.aload_n 0, 1) := by decide +kernel
theorem dX0_leastSaid_7 : decode cX0_leastSaid 7 = .ok (.aload_n 1, 1) := by decide +kernel
theorem dX0_leastSaid_8 : decode cX0_leastSaid 8 = .ok (.aload_n 0, 1) := by decide +kernel
theorem dX0_leastSaid_9 : decode cX0_leastSaid 9 = .ok (.iload_n 2, 1) := by decide +kernel
theorem dX0_leastSaid_10 : decode cX0_leastSaid 10 = .ok (.invokevirtual 55, 3) := by decide +kernel
theorem dX0_leastSaid_13 : decode cX0_leastSaid 13 = .ok (.invokevirtual 73, 3) := by decide +kernel
theorem dX0_leastSaid_16 : decode cX0_leastSaid 16 = .ok (.ireturn, 1) := by decide +kernel
theorem dX0_leastSaidFrom_0 : decode cX0_leastSaidFrom 0 = .ok (.iload_n 2, 1) := by decide +kernel
theorem dX0_leastSaidFrom_1 : decode cX0_leastSaidFrom 1 = .ok (.istore_n 3, 1) := by decide +kernel
theorem dX0_leastSaidFrom_2 : decode cX0_leastSaidFrom 2 = .ok (.iconst 0, 1) := by decide +kernel
theorem dX0_leastSaidFrom_3 : decode cX0_leastSaidFrom 3 = .ok (.istore 4, 2) := by decide +kernel
theorem dX0_leastSaidFrom_5 : decode cX0_leastSaidFrom 5 = .ok (.iload 4, 2) := by decide +kernel
theorem dX0_leastSaidFrom_7 : decode cX0_leastSaidFrom 7 = .ok (.aload_n 0, 1) := by decide +kernel
theorem dX0_leastSaidFrom_8 : decode cX0_leastSaidFrom 8 = .ok (.getfield 49, 3) := by decide +kernel
theorem dX0_leastSaidFrom_11 : decode cX0_leastSaidFrom 11 = .ok (.if_icmp .ge 26, 3) := by decide +kernel
theorem dX0_leastSaidFrom_14 : decode cX0_leastSaidFrom 14 = .ok (.aload_n 0, 1) := by decide +kernel
theorem dX0_leastSaidFrom_15 : decode cX0_leastSaidFrom 15 = .ok (.aload_n 1, 1) := by decide +kernel
theorem dX0_leastSaidFrom_16 : decode cX0_leastSaidFrom 16 = .ok (.iload_n 3, 1) := by decide +kernel
theorem dX0_leastSaidFrom_17 : decode cX0_leastSaidFrom 17 = .ok (.invokevirtual 80, 3) := by decide +kernel
theorem dX0_leastSaidFrom_20 : decode cX0_leastSaidFrom 20 = .ok (.ifCond .eq 5, 3) := by decide +kernel
theorem dX0_leastSaidFrom_23 : decode cX0_leastSaidFrom 23 = .ok (.iload_n 3, 1) := by decide +kernel
theorem dX0_leastSaidFrom_24 : decode cX0_leastSaidFrom 24 = .ok (.ireturn, 1) := by decide +kernel
theorem dX0_leastSaidFrom_25 : decode cX0_leastSaidFrom 25 = .ok (.aload_n 0, 1) := by decide +kernel
theorem dX0_leastSaidFrom_26 : decode cX0_leastSaidFrom 26 = .ok (.iload_n 3, 1) := by decide +kernel
theorem dX0_leastSaidFrom_27 : decode cX0_leastSaidFrom 27 = .ok (.invokevirtual 77, 3) := by decide +kernel
theorem dX0_leastSaidFrom_30 : decode cX0_leastSaidFrom 30 = .ok (.istore_n 3, 1) := by decide +kernel
theorem dX0_leastSaidFrom_31 : decode cX0_leastSaidFrom 31 = .ok (.iinc 4 1, 3) := by decide +kernel
theorem dX0_leastSaidFrom_34 : decode cX0_leastSaidFrom 34 = .ok (.goto (-29), 3) := by decide +kernel
theorem dX0_leastSaidFrom_37 : decode cX0_leastSaidFrom 37 = .ok (.bipush (-2), 2) := by decide +kernel
theorem dX0_leastSaidFrom_39 : decode cX0_leastSaidFrom 39 = .ok (.ireturn, 1) := by decide +kernel
theorem dX0_isMember_0 : decode cX0_isMember 0 = .ok (.aload_n 0, 1) := by decide +kernel
theorem dX0_isMember_1 : decode cX0_isMember 1 = .ok (.getfield 25, 3) := by decide +kernel
theorem dX0_isMember_4 : decode cX0_isMember 4 = .ok (.iload_n 1, 1) := by decide +kernel
theorem dX0_isMember_5 : decode cX0_isMember 5 = .ok (.ishr, 1) := by decide +kernel
theorem dX0_isMember_6 : decode cX0_isMember 6 = .ok (.iconst 1, 1) := by decide +kernel
theorem dX0_isMember_7 : decode cX0_isMember 7 = .ok (.iand, 1) := by decide +kernel
theorem dX0_isMember_8 : decode cX0_isMember 8 = .ok (.iconst 1, 1) := by decide +kernel
theorem dX0_isMember_9 : decode cX0_isMember 9 = .ok (.if_icmp .ne 7, 3) := by decide +kernel
theorem dX0_isMember_12 : decode cX0_isMember 12 = .ok (.iconst 1, 1) := by decide +kernel
theorem dX0_isMember_13 : decode cX0_isMember 13 = .ok (.goto 4, 3) := by decide +kernel
theorem dX0_isMember_16 : decode cX0_isMember 16 = .ok (.iconst 0, 1) := by decide +kernel
theorem dX0_isMember_17 : decode cX0_isMember 17 = .ok (.ireturn, 1) := by decide +kernel
theorem dX0_startOf_0 : decode cX0_startOf 0 = .ok (.iload_n 1, 1) := by decide +kernel
theorem dX0_startOf_1 : decode cX0_startOf 1 = .ok (.istore_n 2, 1) := by decide +kernel
theorem dX0_startOf_2 : decode cX0_startOf 2 = .ok (.iconst 0, 1) := by decide +kernel
theorem dX0_startOf_3 : decode cX0_startOf 3 = .ok (.istore_n 3, 1) := by decide +kernel
theorem dX0_startOf_4 : decode cX0_startOf 4 = .ok (.iload_n 3, 1) := by decide +kernel
theorem dX0_startOf_5 : decode cX0_startOf 5 = .ok (.aload_n 0, 1) := by decide +kernel
theorem dX0_startOf_6 : decode cX0_startOf 6 = .ok (.getfield 9, 3) := by decide +kernel
theorem dX0_startOf_9 : decode cX0_startOf 9 = .ok (.getfield 40, 3) := by decide +kernel
theorem dX0_startOf_12 : decode cX0_startOf 12 = .ok (.if_icmp .ge 28, 3) := by decide +kernel
theorem dX0_startOf_15 : decode cX0_startOf 15 = .ok (.aload_n 0, 1) := by decide +kernel
theorem dX0_startOf_16 : decode cX0_startOf 16 = .ok (.iload_n 3, 1) := by decide +kernel
theorem dX0_startOf_17 : decode cX0_startOf 17 = .ok (.invokevirtual 84, 3) := by decide +kernel
theorem dX0_startOf_20 : decode cX0_startOf 20 = .ok (.ifCond .eq 14, 3) := by decide +kernel
theorem dX0_startOf_23 : decode cX0_startOf 23 = .ok (.aload_n 0, 1) := by decide +kernel
theorem dX0_startOf_24 : decode cX0_startOf 24 = .ok (.getfield 9, 3) := by decide +kernel
theorem dX0_startOf_27 : decode cX0_startOf 27 = .ok (.iload_n 2, 1) := by decide +kernel
theorem dX0_startOf_28 : decode cX0_startOf 28 = .ok (.iload_n 3, 1) := by decide +kernel
theorem dX0_startOf_29 : decode cX0_startOf 29 = .ok (.iconst 0, 1) := by decide +kernel
theorem dX0_startOf_30 : decode cX0_startOf 30 = .ok (.invokevirtual 88, 3) := by decide +kernel
theorem dX0_startOf_33 : decode cX0_startOf 33 = .ok (.istore_n 2, 1) := by decide +kernel
theorem dX0_startOf_34 : decode cX0_startOf 34 = .ok (.iinc 3 1, 3) := by decide +kernel
theorem dX0_startOf_37 : decode cX0_startOf 37 = .ok (.goto (-33), 3) := by decide +kernel
theorem dX0_startOf_40 : decode cX0_startOf 40 = .ok (.iload_n 2, 1) := by decide +kernel
theorem dX0_startOf_41 : decode cX0_startOf 41 = .ok (.ireturn, 1) := by decide +kernel
theorem dX0_nextRow_0 : decode cX0_nextRow 0 = .ok (.iload_n 1, 1) := by decide +kernel
theorem dX0_nextRow_1 : decode cX0_nextRow 1 = .ok (.istore_n 2, 1) := by decide +kernel
theorem dX0_nextRow_2 : decode cX0_nextRow 2 = .ok (.iconst 0, 1) := by decide +kernel
theorem dX0_nextRow_3 : decode cX0_nextRow 3 = .ok (.istore_n 3, 1) := by decide +kernel
theorem dX0_nextRow_4 : decode cX0_nextRow 4 = .ok (.iload_n 3, 1) := by decide +kernel
theorem dX0_nextRow_5 : decode cX0_nextRow 5 = .ok (.aload_n 0, 1) := by decide +kernel
theorem dX0_nextRow_6 : decode cX0_nextRow 6 = .ok (.getfield 9, 3) := by decide +kernel
theorem dX0_nextRow_9 : decode cX0_nextRow 9 = .ok (.getfield 40, 3) := by decide +kernel
theorem dX0_nextRow_12 : decode cX0_nextRow 12 = .ok (.if_icmp .ge 67, 3) := by decide +kernel
theorem dX0_nextRow_15 : decode cX0_nextRow 15 = .ok (.aload_n 0, 1) := by decide +kernel
theorem dX0_nextRow_16 : decode cX0_nextRow 16 = .ok (.iload_n 3, 1) := by decide +kernel
theorem dX0_nextRow_17 : decode cX0_nextRow 17 = .ok (.invokevirtual 84, 3) := by decide +kernel
theorem dX0_nextRow_20 : decode cX0_nextRow 20 = .ok (.ifCond .eq 53, 3) := by decide +kernel
theorem dX0_nextRow_23 : decode cX0_nextRow 23 = .ok (.aload_n 0, 1) := by decide +kernel
theorem dX0_nextRow_24 : decode cX0_nextRow 24 = .ok (.getfield 9, 3) := by decide +kernel
theorem dX0_nextRow_27 : decode cX0_nextRow 27 = .ok (.iload_n 2, 1) := by decide +kernel
theorem dX0_nextRow_28 : decode cX0_nextRow 28 = .ok (.iload_n 3, 1) := by decide +kernel
theorem dX0_nextRow_29 : decode cX0_nextRow 29 = .ok (.invokevirtual 92, 3) := by decide +kernel
theorem dX0_nextRow_32 : decode cX0_nextRow 32 = .ok (.istore 4, 2) := by decide +kernel
theorem dX0_nextRow_34 : decode cX0_nextRow 34 = .ok (.iload 4, 2) := by decide +kernel
theorem dX0_nextRow_36 : decode cX0_nextRow 36 = .ok (.iconst 1, 1) := by decide +kernel
theorem dX0_nextRow_37 : decode cX0_nextRow 37 = .ok (.iadd, 1) := by decide +kernel
theorem dX0_nextRow_38 : decode cX0_nextRow 38 = .ok (.aload_n 0, 1) := by decide +kernel
theorem dX0_nextRow_39 : decode cX0_nextRow 39 = .ok (.getfield 9, 3) := by decide +kernel
theorem dX0_nextRow_42 : decode cX0_nextRow 42 = .ok (.getfield 95, 3) := by decide +kernel
theorem dX0_nextRow_45 : decode cX0_nextRow 45 = .ok (.if_icmp .ge 17, 3) := by decide +kernel
theorem dX0_nextRow_48 : decode cX0_nextRow 48 = .ok (.aload_n 0, 1) := by decide +kernel
theorem dX0_nextRow_49 : decode cX0_nextRow 49 = .ok (.getfield 9, 3) := by decide +kernel
theorem dX0_nextRow_52 : decode cX0_nextRow 52 = .ok (.iload_n 2, 1) := by decide +kernel
theorem dX0_nextRow_53 : decode cX0_nextRow 53 = .ok (.iload_n 3, 1) := by decide +kernel
theorem dX0_nextRow_54 : decode cX0_nextRow 54 = .ok (.iload 4, 2) := by decide +kernel
theorem dX0_nextRow_56 : decode cX0_nextRow 56 = .ok (.iconst 1, 1) := by decide +kernel
theorem dX0_nextRow_57 : decode cX0_nextRow 57 = .ok (.iadd, 1) := by decide +kernel
theorem dX0_nextRow_58 : decode cX0_nextRow 58 = .ok (.invokevirtual 88, 3) := by decide +kernel
theorem dX0_nextRow_61 : decode cX0_nextRow 61 = .ok (.ireturn, 1) := by decide +kernel
theorem dX0_nextRow_62 : decode cX0_nextRow 62 = .ok (.aload_n 0, 1) := by decide +kernel
theorem dX0_nextRow_63 : decode cX0_nextRow 63 = .ok (.getfield 9, 3) := by decide +kernel
theorem dX0_nextRow_66 : decode cX0_nextRow 66 = .ok (.iload_n 2, 1) := by decide +kernel
theorem dX0_nextRow_67 : decode cX0_nextRow 67 = .ok (.iload_n 3, 1) := by decide +kernel
theorem dX0_nextRow_68 : decode cX0_nextRow 68 = .ok (.iconst 0, 1) := by decide +kernel
theorem dX0_nextRow_69 : decode cX0_nextRow 69 = .ok (.invokevirtual 88, 3) := by decide +kernel
theorem dX0_nextRow_72 : decode cX0_nextRow 72 = .ok (.istore_n 2, 1) := by decide +kernel
theorem dX0_nextRow_73 : decode cX0_nextRow 73 = .ok (.iinc 3 1, 3) := by decide +kernel
theorem dX0_nextRow_76 : decode cX0_nextRow 76 = .ok (.goto (-72), 3) := by decide +kernel
theorem dX0_nextRow_79 : decode cX0_nextRow 79 = .ok (.iload_n 2, 1) := by decide +kernel
theorem dX0_nextRow_80 : decode cX0_nextRow 80 = .ok (.ireturn, 1) := by decide +kernel
theorem dX0_findCheapest_0 : decode cX0_findCheapest 0 = .ok (.aload_n 0, 1) := by decide +kernel
theorem dX0_findCheapest_1 : decode cX0_findCheapest 1 = .ok (.getfield 15, 3) := by decide +kernel
theorem dX0_findCheapest_4 : decode cX0_findCheapest 4 = .ok (.ldc 98, 2) := by decide +kernel
theorem dX0_findCheapest_6 : decode cX0_findCheapest 6 = .ok (.invokestatic 99, 3) := by decide +kernel
theorem dX0_findCheapest_9 : decode cX0_findCheapest 9 = .ok (.iload_n 2, 1) := by decide +kernel
theorem dX0_findCheapest_10 : decode cX0_findCheapest 10 = .ok (.istore_n 3, 1) := by decide +kernel
theorem dX0_findCheapest_11 : decode cX0_findCheapest 11 = .ok (.iconst 0, 1) := by decide +kernel
theorem dX0_findCheapest_12 : decode cX0_findCheapest 12 = .ok (.istore 4, 2) := by decide +kernel
theorem dX0_findCheapest_14 : decode cX0_findCheapest 14 = .ok (.iload 4, 2) := by decide +kernel
theorem dX0_findCheapest_16 : decode cX0_findCheapest 16 = .ok (.aload_n 0, 1) := by decide +kernel
theorem dX0_findCheapest_17 : decode cX0_findCheapest 17 = .ok (.getfield 49, 3) := by decide +kernel
theorem dX0_findCheapest_20 : decode cX0_findCheapest 20 = .ok (.if_icmp .ge 76, 3) := by decide +kernel
theorem dX0_findCheapest_23 : decode cX0_findCheapest 23 = .ok (.aload_n 1, 1) := by decide +kernel
theorem dX0_findCheapest_24 : decode cX0_findCheapest 24 = .ok (.iload_n 3, 1) := by decide +kernel
theorem dX0_findCheapest_25 : decode cX0_findCheapest 25 = .ok (.invokevirtual 105, 3) := by decide +kernel
theorem dX0_findCheapest_28 : decode cX0_findCheapest 28 = .ok (.istore 5, 2) := by decide +kernel
theorem dX0_findCheapest_30 : decode cX0_findCheapest 30 = .ok (.iconst 0, 1) := by decide +kernel
theorem dX0_findCheapest_31 : decode cX0_findCheapest 31 = .ok (.istore 6, 2) := by decide +kernel
theorem dX0_findCheapest_33 : decode cX0_findCheapest 33 = .ok (.iload 6, 2) := by decide +kernel
theorem dX0_findCheapest_35 : decode cX0_findCheapest 35 = .ok (.aload_n 0, 1) := by decide +kernel
theorem dX0_findCheapest_36 : decode cX0_findCheapest 36 = .ok (.getfield 9, 3) := by decide +kernel
theorem dX0_findCheapest_39 : decode cX0_findCheapest 39 = .ok (.getfield 40, 3) := by decide +kernel
theorem dX0_findCheapest_42 : decode cX0_findCheapest 42 = .ok (.if_icmp .ge 42, 3) := by decide +kernel
theorem dX0_findCheapest_45 : decode cX0_findCheapest 45 = .ok (.iload 5, 2) := by decide +kernel
theorem dX0_findCheapest_47 : decode cX0_findCheapest 47 = .ok (.iconst 4, 1) := by decide +kernel
theorem dX0_findCheapest_48 : decode cX0_findCheapest 48 = .ok (.imul, 1) := by decide +kernel
theorem dX0_findCheapest_49 : decode cX0_findCheapest 49 = .ok (.iload 6, 2) := by decide +kernel
theorem dX0_findCheapest_51 : decode cX0_findCheapest 51 = .ok (.iadd, 1) := by decide +kernel
theorem dX0_findCheapest_52 : decode cX0_findCheapest 52 = .ok (.istore 7, 2) := by decide +kernel
theorem dX0_findCheapest_54 : decode cX0_findCheapest 54 = .ok (.aload_n 0, 1) := by decide +kernel
theorem dX0_findCheapest_55 : decode cX0_findCheapest 55 = .ok (.getfield 15, 3) := by decide +kernel
theorem dX0_findCheapest_58 : decode cX0_findCheapest 58 = .ok (.iload 7, 2) := by decide +kernel
theorem dX0_findCheapest_60 : decode cX0_findCheapest 60 = .ok (.aload_n 0, 1) := by decide +kernel
theorem dX0_findCheapest_61 : decode cX0_findCheapest 61 = .ok (.getfield 15, 3) := by decide +kernel
theorem dX0_findCheapest_64 : decode cX0_findCheapest 64 = .ok (.iload 7, 2) := by decide +kernel
theorem dX0_findCheapest_66 : decode cX0_findCheapest 66 = .ok (.iaload, 1) := by decide +kernel
theorem dX0_findCheapest_67 : decode cX0_findCheapest 67 = .ok (.aload_n 1, 1) := by decide +kernel
theorem dX0_findCheapest_68 : decode cX0_findCheapest 68 = .ok (.iload_n 3, 1) := by decide +kernel
theorem dX0_findCheapest_69 : decode cX0_findCheapest 69 = .ok (.iload 6, 2) := by decide +kernel
theorem dX0_findCheapest_71 : decode cX0_findCheapest 71 = .ok (.invokevirtual 110, 3) := by decide +kernel
theorem dX0_findCheapest_74 : decode cX0_findCheapest 74 = .ok (.invokestatic 43, 3) := by decide +kernel
theorem dX0_findCheapest_77 : decode cX0_findCheapest 77 = .ok (.iastore, 1) := by decide +kernel
theorem dX0_findCheapest_78 : decode cX0_findCheapest 78 = .ok (.iinc 6 1, 3) := by decide +kernel
theorem dX0_findCheapest_81 : decode cX0_findCheapest 81 = .ok (.goto (-48), 3) := by decide +kernel
theorem dX0_findCheapest_84 : decode cX0_findCheapest 84 = .ok (.aload_n 0, 1) := by decide +kernel
theorem dX0_findCheapest_85 : decode cX0_findCheapest 85 = .ok (.iload_n 3, 1) := by decide +kernel
theorem dX0_findCheapest_86 : decode cX0_findCheapest 86 = .ok (.invokevirtual 77, 3) := by decide +kernel
theorem dX0_findCheapest_89 : decode cX0_findCheapest 89 = .ok (.istore_n 3, 1) := by decide +kernel
theorem dX0_findCheapest_90 : decode cX0_findCheapest 90 = .ok (.iinc 4 1, 3) := by decide +kernel
theorem dX0_findCheapest_93 : decode cX0_findCheapest 93 = .ok (.goto (-79), 3) := by decide +kernel
theorem dX0_findCheapest_96 : decode cX0_findCheapest 96 = .ok (.return_, 1) := by decide +kernel
theorem dX0_stand_0 : decode cX0_stand 0 = .ok (.iconst 0, 1) := by decide +kernel
theorem dX0_stand_1 : decode cX0_stand 1 = .ok (.istore_n 3, 1) := by decide +kernel
theorem dX0_stand_2 : decode cX0_stand 2 = .ok (.iload_n 3, 1) := by decide +kernel
theorem dX0_stand_3 : decode cX0_stand 3 = .ok (.aload_n 0, 1) := by decide +kernel
theorem dX0_stand_4 : decode cX0_stand 4 = .ok (.getfield 9, 3) := by decide +kernel
theorem dX0_stand_7 : decode cX0_stand 7 = .ok (.getfield 40, 3) := by decide +kernel
theorem dX0_stand_10 : decode cX0_stand 10 = .ok (.if_icmp .ge 42, 3) := by decide +kernel
theorem dX0_stand_13 : decode cX0_stand 13 = .ok (.aload_n 0, 1) := by decide +kernel
theorem dX0_stand_14 : decode cX0_stand 14 = .ok (.getfield 19, 3) := by decide +kernel
theorem dX0_stand_17 : decode cX0_stand 17 = .ok (.iload_n 3, 1) := by decide +kernel
theorem dX0_stand_18 : decode cX0_stand 18 = .ok (.aload_n 0, 1) := by decide +kernel
theorem dX0_stand_19 : decode cX0_stand 19 = .ok (.getfield 9, 3) := by decide +kernel
theorem dX0_stand_22 : decode cX0_stand 22 = .ok (.iload_n 2, 1) := by decide +kernel
theorem dX0_stand_23 : decode cX0_stand 23 = .ok (.iload_n 3, 1) := by decide +kernel
theorem dX0_stand_24 : decode cX0_stand 24 = .ok (.invokevirtual 92, 3) := by decide +kernel
theorem dX0_stand_27 : decode cX0_stand 27 = .ok (.iastore, 1) := by decide +kernel
theorem dX0_stand_28 : decode cX0_stand 28 = .ok (.aload_n 0, 1) := by decide +kernel
theorem dX0_stand_29 : decode cX0_stand 29 = .ok (.getfield 22, 3) := by decide +kernel
theorem dX0_stand_32 : decode cX0_stand 32 = .ok (.iload_n 3, 1) := by decide +kernel
theorem dX0_stand_33 : decode cX0_stand 33 = .ok (.aload_n 1, 1) := by decide +kernel
theorem dX0_stand_34 : decode cX0_stand 34 = .ok (.iload_n 2, 1) := by decide +kernel
theorem dX0_stand_35 : decode cX0_stand 35 = .ok (.iload_n 3, 1) := by decide +kernel
theorem dX0_stand_36 : decode cX0_stand 36 = .ok (.aload_n 0, 1) := by decide +kernel
theorem dX0_stand_37 : decode cX0_stand 37 = .ok (.getfield 19, 3) := by decide +kernel
theorem dX0_stand_40 : decode cX0_stand 40 = .ok (.iload_n 3, 1) := by decide +kernel
theorem dX0_stand_41 : decode cX0_stand 41 = .ok (.iaload, 1) := by decide +kernel
theorem dX0_stand_42 : decode cX0_stand 42 = .ok (.invokevirtual 113, 3) := by decide +kernel
theorem dX0_stand_45 : decode cX0_stand 45 = .ok (.iastore, 1) := by decide +kernel
theorem dX0_stand_46 : decode cX0_stand 46 = .ok (.iinc 3 1, 3) := by decide +kernel
theorem dX0_stand_49 : decode cX0_stand 49 = .ok (.goto (-47), 3) := by decide +kernel
theorem dX0_stand_52 : decode cX0_stand 52 = .ok (.return_, 1) := by decide +kernel
theorem dX0_mayLie_0 : decode cX0_mayLie 0 = .ok (.iconst 0, 1) := by decide +kernel
theorem dX0_mayLie_1 : decode cX0_mayLie 1 = .ok (.istore_n 1, 1) := by decide +kernel
theorem dX0_mayLie_2 : decode cX0_mayLie 2 = .ok (.iload_n 1, 1) := by decide +kernel
theorem dX0_mayLie_3 : decode cX0_mayLie 3 = .ok (.aload_n 0, 1) := by decide +kernel
theorem dX0_mayLie_4 : decode cX0_mayLie 4 = .ok (.getfield 9, 3) := by decide +kernel
theorem dX0_mayLie_7 : decode cX0_mayLie 7 = .ok (.getfield 116, 3) := by decide +kernel
theorem dX0_mayLie_10 : decode cX0_mayLie 10 = .ok (.if_icmp .ge 19, 3) := by decide +kernel
theorem dX0_mayLie_13 : decode cX0_mayLie 13 = .ok (.aload_n 0, 1) := by decide +kernel
theorem dX0_mayLie_14 : decode cX0_mayLie 14 = .ok (.iload_n 1, 1) := by decide +kernel
theorem dX0_mayLie_15 : decode cX0_mayLie 15 = .ok (.invokevirtual 119, 3) := by decide +kernel
theorem dX0_mayLie_18 : decode cX0_mayLie 18 = .ok (.ifCond .eq 5, 3) := by decide +kernel
theorem dX0_mayLie_21 : decode cX0_mayLie 21 = .ok (.iconst 1, 1) := by decide +kernel
theorem dX0_mayLie_22 : decode cX0_mayLie 22 = .ok (.ireturn, 1) := by decide +kernel
theorem dX0_mayLie_23 : decode cX0_mayLie 23 = .ok (.iinc 1 1, 3) := by decide +kernel
theorem dX0_mayLie_26 : decode cX0_mayLie 26 = .ok (.goto (-24), 3) := by decide +kernel
theorem dX0_mayLie_29 : decode cX0_mayLie 29 = .ok (.iconst 0, 1) := by decide +kernel
theorem dX0_mayLie_30 : decode cX0_mayLie 30 = .ok (.ireturn, 1) := by decide +kernel
theorem dX0_mayLieFor_0 : decode cX0_mayLieFor 0 = .ok (.iconst 0, 1) := by decide +kernel
theorem dX0_mayLieFor_1 : decode cX0_mayLieFor 1 = .ok (.istore_n 2, 1) := by decide +kernel
theorem dX0_mayLieFor_2 : decode cX0_mayLieFor 2 = .ok (.iload_n 2, 1) := by decide +kernel
theorem dX0_mayLieFor_3 : decode cX0_mayLieFor 3 = .ok (.aload_n 0, 1) := by decide +kernel
theorem dX0_mayLieFor_4 : decode cX0_mayLieFor 4 = .ok (.getfield 9, 3) := by decide +kernel
theorem dX0_mayLieFor_7 : decode cX0_mayLieFor 7 = .ok (.getfield 40, 3) := by decide +kernel
theorem dX0_mayLieFor_10 : decode cX0_mayLieFor 10 = .ok (.if_icmp .ge 55, 3) := by decide +kernel
theorem dX0_mayLieFor_13 : decode cX0_mayLieFor 13 = .ok (.aload_n 0, 1) := by decide +kernel
theorem dX0_mayLieFor_14 : decode cX0_mayLieFor 14 = .ok (.getfield 9, 3) := by decide +kernel
theorem dX0_mayLieFor_17 : decode cX0_mayLieFor 17 = .ok (.aload_n 0, 1) := by decide +kernel
theorem dX0_mayLieFor_18 : decode cX0_mayLieFor 18 = .ok (.getfield 19, 3) := by decide +kernel
theorem dX0_mayLieFor_21 : decode cX0_mayLieFor 21 = .ok (.iload_n 2, 1) := by decide +kernel
theorem dX0_mayLieFor_22 : decode cX0_mayLieFor 22 = .ok (.iaload, 1) := by decide +kernel
theorem dX0_mayLieFor_23 : decode cX0_mayLieFor 23 = .ok (.iload_n 1, 1) := by decide +kernel
theorem dX0_mayLieFor_24 : decode cX0_mayLieFor 24 = .ok (.invokevirtual 122, 3) := by decide +kernel
theorem dX0_mayLieFor_27 : decode cX0_mayLieFor 27 = .ok (.aload_n 0, 1) := by decide +kernel
theorem dX0_mayLieFor_28 : decode cX0_mayLieFor 28 = .ok (.getfield 15, 3) := by decide +kernel
theorem dX0_mayLieFor_31 : decode cX0_mayLieFor 31 = .ok (.iload_n 1, 1) := by decide +kernel
theorem dX0_mayLieFor_32 : decode cX0_mayLieFor 32 = .ok (.iconst 4, 1) := by decide +kernel
theorem dX0_mayLieFor_33 : decode cX0_mayLieFor 33 = .ok (.imul, 1) := by decide +kernel
theorem dX0_mayLieFor_34 : decode cX0_mayLieFor 34 = .ok (.iload_n 2, 1) := by decide +kernel
theorem dX0_mayLieFor_35 : decode cX0_mayLieFor 35 = .ok (.iadd, 1) := by decide +kernel
theorem dX0_mayLieFor_36 : decode cX0_mayLieFor 36 = .ok (.iaload, 1) := by decide +kernel
theorem dX0_mayLieFor_37 : decode cX0_mayLieFor 37 = .ok (.isub, 1) := by decide +kernel
theorem dX0_mayLieFor_38 : decode cX0_mayLieFor 38 = .ok (.istore_n 3, 1) := by decide +kernel
theorem dX0_mayLieFor_39 : decode cX0_mayLieFor 39 = .ok (.aload_n 0, 1) := by decide +kernel
theorem dX0_mayLieFor_40 : decode cX0_mayLieFor 40 = .ok (.iload_n 2, 1) := by decide +kernel
theorem dX0_mayLieFor_41 : decode cX0_mayLieFor 41 = .ok (.invokevirtual 84, 3) := by decide +kernel
theorem dX0_mayLieFor_44 : decode cX0_mayLieFor 44 = .ok (.ifCond .eq 15, 3) := by decide +kernel
theorem dX0_mayLieFor_47 : decode cX0_mayLieFor 47 = .ok (.iload_n 3, 1) := by decide +kernel
theorem dX0_mayLieFor_48 : decode cX0_mayLieFor 48 = .ok (.aload_n 0, 1) := by decide +kernel
theorem dX0_mayLieFor_49 : decode cX0_mayLieFor 49 = .ok (.getfield 22, 3) := by decide +kernel
theorem dX0_mayLieFor_52 : decode cX0_mayLieFor 52 = .ok (.iload_n 2, 1) := by decide +kernel
theorem dX0_mayLieFor_53 : decode cX0_mayLieFor 53 = .ok (.iaload, 1) := by decide +kernel
theorem dX0_mayLieFor_54 : decode cX0_mayLieFor 54 = .ok (.if_icmp .gt 5, 3) := by decide +kernel
theorem dX0_mayLieFor_57 : decode cX0_mayLieFor 57 = .ok (.iconst 0, 1) := by decide +kernel
theorem dX0_mayLieFor_58 : decode cX0_mayLieFor 58 = .ok (.ireturn, 1) := by decide +kernel
theorem dX0_mayLieFor_59 : decode cX0_mayLieFor 59 = .ok (.iinc 2 1, 3) := by decide +kernel
theorem dX0_mayLieFor_62 : decode cX0_mayLieFor 62 = .ok (.goto (-60), 3) := by decide +kernel
theorem dX0_mayLieFor_65 : decode cX0_mayLieFor 65 = .ok (.iconst 1, 1) := by decide +kernel
theorem dX0_mayLieFor_66 : decode cX0_mayLieFor 66 = .ok (.ireturn, 1) := by decide +kernel
theorem dX0_allGain_0 : decode cX0_allGain 0 = .ok (.iconst 0, 1) := by decide +kernel
theorem dX0_allGain_1 : decode cX0_allGain 1 = .ok (.istore_n 3, 1) := by decide +kernel
theorem dX0_allGain_2 : decode cX0_allGain 2 = .ok (.iload_n 3, 1) := by decide +kernel
theorem dX0_allGain_3 : decode cX0_allGain 3 = .ok (.aload_n 0, 1) := by decide +kernel
theorem dX0_allGain_4 : decode cX0_allGain 4 = .ok (.getfield 9, 3) := by decide +kernel
theorem dX0_allGain_7 : decode cX0_allGain 7 = .ok (.getfield 40, 3) := by decide +kernel
theorem dX0_allGain_10 : decode cX0_allGain 10 = .ok (.if_icmp .ge 40, 3) := by decide +kernel
theorem dX0_allGain_13 : decode cX0_allGain 13 = .ok (.aload_n 0, 1) := by decide +kernel
theorem dX0_allGain_14 : decode cX0_allGain 14 = .ok (.iload_n 3, 1) := by decide +kernel
theorem dX0_allGain_15 : decode cX0_allGain 15 = .ok (.invokevirtual 84, 3) := by decide +kernel
theorem dX0_allGain_18 : decode cX0_allGain 18 = .ok (.ifCond .eq 26, 3) := by decide +kernel
theorem dX0_allGain_21 : decode cX0_allGain 21 = .ok (.aload_n 1, 1) := by decide +kernel
theorem dX0_allGain_22 : decode cX0_allGain 22 = .ok (.iload_n 2, 1) := by decide +kernel
theorem dX0_allGain_23 : decode cX0_allGain 23 = .ok (.iload_n 3, 1) := by decide +kernel
theorem dX0_allGain_24 : decode cX0_allGain 24 = .ok (.aload_n 0, 1) := by decide +kernel
theorem dX0_allGain_25 : decode cX0_allGain 25 = .ok (.getfield 19, 3) := by decide +kernel
theorem dX0_allGain_28 : decode cX0_allGain 28 = .ok (.iload_n 3, 1) := by decide +kernel
theorem dX0_allGain_29 : decode cX0_allGain 29 = .ok (.iaload, 1) := by decide +kernel
theorem dX0_allGain_30 : decode cX0_allGain 30 = .ok (.invokevirtual 113, 3) := by decide +kernel
theorem dX0_allGain_33 : decode cX0_allGain 33 = .ok (.aload_n 0, 1) := by decide +kernel
theorem dX0_allGain_34 : decode cX0_allGain 34 = .ok (.getfield 22, 3) := by decide +kernel
theorem dX0_allGain_37 : decode cX0_allGain 37 = .ok (.iload_n 3, 1) := by decide +kernel
theorem dX0_allGain_38 : decode cX0_allGain 38 = .ok (.iaload, 1) := by decide +kernel
theorem dX0_allGain_39 : decode cX0_allGain 39 = .ok (.if_icmp .gt 5, 3) := by decide +kernel
theorem dX0_allGain_42 : decode cX0_allGain 42 = .ok (.iconst 0, 1) := by decide +kernel
theorem dX0_allGain_43 : decode cX0_allGain 43 = .ok (.ireturn, 1) := by decide +kernel
theorem dX0_allGain_44 : decode cX0_allGain 44 = .ok (.iinc 3 1, 3) := by decide +kernel
theorem dX0_allGain_47 : decode cX0_allGain 47 = .ok (.goto (-45), 3) := by decide +kernel
theorem dX0_allGain_50 : decode cX0_allGain 50 = .ok (.iconst 1, 1) := by decide +kernel
theorem dX0_allGain_51 : decode cX0_allGain 51 = .ok (.ireturn, 1) := by decide +kernel
theorem dX1_init_0 : decode cX1_init 0 = .ok (.aload_n 0, 1) := by decide +kernel
theorem dX1_init_1 : decode cX1_init 1 = .ok (.invokespecial 3, 3) := by decide +kernel
theorem dX1_init_4 : decode cX1_init 4 = .ok (.aload_n 0, 1) := by decide +kernel
theorem dX1_init_5 : decode cX1_init 5 = .ok (.iload_n 1, 1) := by decide +kernel
theorem dX1_init_6 : decode cX1_init 6 = .ok (.putfield 9, 3) := by decide +kernel
theorem dX1_init_9 : decode cX1_init 9 = .ok (.aload_n 0, 1) := by decide +kernel
theorem dX1_init_10 : decode cX1_init 10 = .ok (.iload_n 1, 1) := by decide +kernel
theorem dX1_init_11 : decode cX1_init 11 = .ok (.iconst 2, 1) := by decide +kernel
theorem dX1_init_12 : decode cX1_init 12 = .ok (.if_icmp .ne 9, 3) := by decide +kernel
theorem dX1_init_15 : decode cX1_init 15 = .ok (.getstatic 15, 3) := by decide +kernel
theorem dX1_init_18 : decode cX1_init 18 = .ok (.goto 17, 3) := by decide +kernel
theorem dX1_init_21 : decode cX1_init 21 = .ok (.iload_n 1, 1) := by decide +kernel
theorem dX1_init_22 : decode cX1_init 22 = .ok (.iconst 3, 1) := by decide +kernel
theorem dX1_init_23 : decode cX1_init 23 = .ok (.if_icmp .ne 9, 3) := by decide +kernel
theorem dX1_init_26 : decode cX1_init 26 = .ok (.getstatic 19, 3) := by decide +kernel
theorem dX1_init_29 : decode cX1_init 29 = .ok (.goto 6, 3) := by decide +kernel
theorem dX1_init_32 : decode cX1_init 32 = .ok (.getstatic 22, 3) := by decide +kernel
theorem dX1_init_35 : decode cX1_init 35 = .ok (.putfield 25, 3) := by decide +kernel
theorem dX1_init_38 : decode cX1_init 38 = .ok (.aload_n 0, 1) := by decide +kernel
theorem dX1_init_39 : decode cX1_init 39 = .ok (.bipush 16, 2) := by decide +kernel
theorem dX1_init_41 : decode cX1_init 41 = .ok (.newarray .int, 2) := by decide +kernel
theorem dX1_init_43 : decode cX1_init 43 = .ok (.putfield 28, 3) := by decide +kernel
theorem dX1_init_46 : decode cX1_init 46 = .ok (.aload_n 0, 1) := by decide +kernel
theorem dX1_init_47 : decode cX1_init 47 = .ok (.bipush 16, 2) := by decide +kernel
theorem dX1_init_49 : decode cX1_init 49 = .ok (.newarray .int, 2) := by decide +kernel
theorem dX1_init_51 : decode cX1_init 51 = .ok (.putfield 31, 3) := by decide +kernel
theorem dX1_init_54 : decode cX1_init 54 = .ok (.aload_n 0, 1) := by decide +kernel
theorem dX1_init_55 : decode cX1_init 55 = .ok (.iconst 4, 1) := by decide +kernel
theorem dX1_init_56 : decode cX1_init 56 = .ok (.newarray .int, 2) := by decide +kernel
theorem dX1_init_58 : decode cX1_init 58 = .ok (.putfield 34, 3) := by decide +kernel
theorem dX1_init_61 : decode cX1_init 61 = .ok (.aload_n 0, 1) := by decide +kernel
theorem dX1_init_62 : decode cX1_init 62 = .ok (.iconst 4, 1) := by decide +kernel
theorem dX1_init_63 : decode cX1_init 63 = .ok (.newarray .int, 2) := by decide +kernel
theorem dX1_init_65 : decode cX1_init 65 = .ok (.putfield 37, 3) := by decide +kernel
theorem dX1_init_68 : decode cX1_init 68 = .ok (.aload_n 0, 1) := by decide +kernel
theorem dX1_init_69 : decode cX1_init 69 = .ok (.iconst 4, 1) := by decide +kernel
theorem dX1_init_70 : decode cX1_init 70 = .ok (.newarray .int, 2) := by decide +kernel
theorem dX1_init_72 : decode cX1_init 72 = .ok (.putfield 40, 3) := by decide +kernel
theorem dX1_init_75 : decode cX1_init 75 = .ok (.aload_n 0, 1) := by decide +kernel
theorem dX1_init_76 : decode cX1_init 76 = .ok (.iconst 4, 1) := by decide +kernel
theorem dX1_init_77 : decode cX1_init 77 = .ok (.newarray .int, 2) := by decide +kernel
theorem dX1_init_79 : decode cX1_init 79 = .ok (.putfield 43, 3) := by decide +kernel
theorem dX1_init_82 : decode cX1_init 82 = .ok (.aload_n 0, 1) := by decide +kernel
theorem dX1_init_83 : decode cX1_init 83 = .ok (.iconst 4, 1) := by decide +kernel
theorem dX1_init_84 : decode cX1_init 84 = .ok (.newarray .int, 2) := by decide +kernel
theorem dX1_init_86 : decode cX1_init 86 = .ok (.putfield 46, 3) := by decide +kernel
theorem dX1_init_89 : decode cX1_init 89 = .ok (.iconst 0, 1) := by decide +kernel
theorem dX1_init_90 : decode cX1_init 90 = .ok (.istore_n 2, 1) := by decide +kernel
theorem dX1_init_91 : decode cX1_init 91 = .ok (.iload_n 2, 1) := by decide +kernel
theorem dX1_init_92 : decode cX1_init 92 = .ok (.bipush 16, 2) := by decide +kernel
theorem dX1_init_94 : decode cX1_init 94 = .ok (.if_icmp .ge 27, 3) := by decide +kernel
theorem dX1_init_97 : decode cX1_init 97 = .ok (.aload_n 0, 1) := by decide +kernel
theorem dX1_init_98 : decode cX1_init 98 = .ok (.getfield 28, 3) := by decide +kernel
theorem dX1_init_101 : decode cX1_init 101 = .ok (.iload_n 2, 1) := by decide +kernel
theorem dX1_init_102 : decode cX1_init 102 = .ok (.iload_n 2, 1) := by decide +kernel
theorem dX1_init_103 : decode cX1_init 103 = .ok (.iconst 4, 1) := by decide +kernel
theorem dX1_init_104 : decode cX1_init 104 = .ok (.irem, 1) := by decide +kernel
theorem dX1_init_105 : decode cX1_init 105 = .ok (.iastore, 1) := by decide +kernel
theorem dX1_init_106 : decode cX1_init 106 = .ok (.aload_n 0, 1) := by decide +kernel
theorem dX1_init_107 : decode cX1_init 107 = .ok (.getfield 31, 3) := by decide +kernel
theorem dX1_init_110 : decode cX1_init 110 = .ok (.iload_n 2, 1) := by decide +kernel
theorem dX1_init_111 : decode cX1_init 111 = .ok (.iload_n 2, 1) := by decide +kernel
theorem dX1_init_112 : decode cX1_init 112 = .ok (.iconst 4, 1) := by decide +kernel
theorem dX1_init_113 : decode cX1_init 113 = .ok (.irem, 1) := by decide +kernel
theorem dX1_init_114 : decode cX1_init 114 = .ok (.iastore, 1) := by decide +kernel
theorem dX1_init_115 : decode cX1_init 115 = .ok (.iinc 2 1, 3) := by decide +kernel
theorem dX1_init_118 : decode cX1_init 118 = .ok (.goto (-27), 3) := by decide +kernel
theorem dX1_init_121 : decode cX1_init 121 = .ok (.return_, 1) := by decide +kernel
theorem dX1_isOrder_0 : decode cX1_isOrder 0 = .ok (.aload_n 0, 1) := by decide +kernel
theorem dX1_isOrder_1 : decode cX1_isOrder 1 = .ok (.getfield 25, 3) := by decide +kernel
theorem dX1_isOrder_4 : decode cX1_isOrder 4 = .ok (.astore_n 2, 1) := by decide +kernel
theorem dX1_isOrder_5 : decode cX1_isOrder 5 = .ok (.aload_n 2, 1) := by decide +kernel
theorem dX1_isOrder_6 : decode cX1_isOrder 6 = .ok (.arraylength, 1) := by decide +kernel
theorem dX1_isOrder_7 : decode cX1_isOrder 7 = .ok (.istore_n 3, 1) := by decide +kernel
theorem dX1_isOrder_8 : decode cX1_isOrder 8 = .ok (.iconst 0, 1) := by decide +kernel
theorem dX1_isOrder_9 : decode cX1_isOrder 9 = .ok (.istore 4, 2) := by decide +kernel
theorem dX1_isOrder_11 : decode cX1_isOrder 11 = .ok (.iload 4, 2) := by decide +kernel
theorem dX1_isOrder_13 : decode cX1_isOrder 13 = .ok (.iload_n 3, 1) := by decide +kernel
theorem dX1_isOrder_14 : decode cX1_isOrder 14 = .ok (.if_icmp .ge 23, 3) := by decide +kernel
theorem dX1_isOrder_17 : decode cX1_isOrder 17 = .ok (.aload_n 2, 1) := by decide +kernel
theorem dX1_isOrder_18 : decode cX1_isOrder 18 = .ok (.iload 4, 2) := by decide +kernel
theorem dX1_isOrder_20 : decode cX1_isOrder 20 = .ok (.iaload, 1) := by decide +kernel
theorem dX1_isOrder_21 : decode cX1_isOrder 21 = .ok (.istore 5, 2) := by decide +kernel
theorem dX1_isOrder_23 : decode cX1_isOrder 23 = .ok (.iload 5, 2) := by decide +kernel
theorem dX1_isOrder_25 : decode cX1_isOrder 25 = .ok (.iload_n 1, 1) := by decide +kernel
theorem dX1_isOrder_26 : decode cX1_isOrder 26 = .ok (.if_icmp .ne 5, 3) := by decide +kernel
theorem dX1_isOrder_29 : decode cX1_isOrder 29 = .ok (.iconst 1, 1) := by decide +kernel
theorem dX1_isOrder_30 : decode cX1_isOrder 30 = .ok (.ireturn, 1) := by decide +kernel
theorem dX1_isOrder_31 : decode cX1_isOrder 31 = .ok (.iinc 4 1, 3) := by decide +kernel
theorem dX1_isOrder_34 : decode cX1_isOrder 34 = .ok (.goto (-23), 3) := by decide +kernel
theorem dX1_isOrder_37 : decode cX1_isOrder 37 = .ok (.iconst 0, 1) := by decide +kernel
theorem dX1_isOrder_38 : decode cX1_isOrder 38 = .ok (.ireturn, 1) := by decide +kernel
theorem dX1_read_0 : decode cX1_read 0 = .ok (.iload_n 1, 1) := by decide +kernel
theorem dX1_read_1 : decode cX1_read 1 = .ok (.istore_n 3, 1) := by decide +kernel
theorem dX1_read_2 : decode cX1_read 2 = .ok (.aload_n 0, 1) := by decide +kernel
theorem dX1_read_3 : decode cX1_read 3 = .ok (.getfield 9, 3) := by decide +kernel
theorem dX1_read_6 : decode cX1_read 6 = .ok (.iconst 1, 1) := by decide +kernel
theorem dX1_read_7 : decode cX1_read 7 = .ok (.isub, 1) := by decide +kernel
theorem dX1_read_8 : decode cX1_read 8 = .ok (.istore 4, 2) := by decide +kernel
theorem dX1_read_10 : decode cX1_read 10 = .ok (.iload 4, 2) := by decide +kernel
theorem dX1_read_12 : decode cX1_read 12 = .ok (.ifCond .lt 22, 3) := by decide +kernel
theorem dX1_read_15 : decode cX1_read 15 = .ok (.aload_n 2, 1) := by decide +kernel
theorem dX1_read_16 : decode cX1_read 16 = .ok (.iload 4, 2) := by decide +kernel
theorem dX1_read_18 : decode cX1_read 18 = .ok (.iload_n 3, 1) := by decide +kernel
theorem dX1_read_19 : decode cX1_read 19 = .ok (.bipush 10, 2) := by decide +kernel
theorem dX1_read_21 : decode cX1_read 21 = .ok (.irem, 1) := by decide +kernel
theorem dX1_read_22 : decode cX1_read 22 = .ok (.iastore, 1) := by decide +kernel
theorem dX1_read_23 : decode cX1_read 23 = .ok (.iload_n 3, 1) := by decide +kernel
theorem dX1_read_24 : decode cX1_read 24 = .ok (.bipush 10, 2) := by decide +kernel
theorem dX1_read_26 : decode cX1_read 26 = .ok (.idiv, 1) := by decide +kernel
theorem dX1_read_27 : decode cX1_read 27 = .ok (.istore_n 3, 1) := by decide +kernel
theorem dX1_read_28 : decode cX1_read 28 = .ok (.iinc 4 (-1), 3) := by decide +kernel
theorem dX1_read_31 : decode cX1_read 31 = .ok (.goto (-21), 3) := by decide +kernel
theorem dX1_read_34 : decode cX1_read 34 = .ok (.return_, 1) := by decide +kernel
theorem dX1_told_0 : decode cX1_told 0 = .ok (.iconst 0, 1) := by decide +kernel
theorem dX1_told_1 : decode cX1_told 1 = .ok (.istore_n 2, 1) := by decide +kernel
theorem dX1_told_2 : decode cX1_told 2 = .ok (.iconst 0, 1) := by decide +kernel
theorem dX1_told_3 : decode cX1_told 3 = .ok (.istore_n 3, 1) := by decide +kernel
theorem dX1_told_4 : decode cX1_told 4 = .ok (.iload_n 3, 1) := by decide +kernel
theorem dX1_told_5 : decode cX1_told 5 = .ok (.aload_n 0, 1) := by decide +kernel
theorem dX1_told_6 : decode cX1_told 6 = .ok (.getfield 9, 3) := by decide +kernel
theorem dX1_told_9 : decode cX1_told 9 = .ok (.if_icmp .ge 18, 3) := by decide +kernel
theorem dX1_told_12 : decode cX1_told 12 = .ok (.iload_n 2, 1) := by decide +kernel
theorem dX1_told_13 : decode cX1_told 13 = .ok (.bipush 10, 2) := by decide +kernel
theorem dX1_told_15 : decode cX1_told 15 = .ok (.imul, 1) := by decide +kernel
theorem dX1_told_16 : decode cX1_told 16 = .ok (.aload_n 1, 1) := by decide +kernel
theorem dX1_told_17 : decode cX1_told 17 = .ok (.iload_n 3, 1) := by decide +kernel
theorem dX1_told_18 : decode cX1_told 18 = .ok (.iaload, 1) := by decide +kernel
theorem dX1_told_19 : decode cX1_told 19 = .ok (.iadd, 1) := by decide +kernel
theorem dX1_told_20 : decode cX1_told 20 = .ok (.istore_n 2, 1) := by decide +kernel
theorem dX1_told_21 : decode cX1_told 21 = .ok (.iinc 3 1, 3) := by decide +kernel
theorem dX1_told_24 : decode cX1_told 24 = .ok (.goto (-20), 3) := by decide +kernel
theorem dX1_told_27 : decode cX1_told 27 = .ok (.iload_n 2, 1) := by decide +kernel
theorem dX1_told_28 : decode cX1_told 28 = .ok (.ireturn, 1) := by decide +kernel
theorem dX1_learn_0 : decode cX1_learn 0 = .ok (.aload_n 0, 1) := by decide +kernel
theorem dX1_learn_1 : decode cX1_learn 1 = .ok (.iload_n 2, 1) := by decide +kernel
theorem dX1_learn_2 : decode cX1_learn 2 = .ok (.aload_n 0, 1) := by decide +kernel
theorem dX1_learn_3 : decode cX1_learn 3 = .ok (.getfield 46, 3) := by decide +kernel
theorem dX1_learn_6 : decode cX1_learn 6 = .ok (.invokevirtual 49, 3) := by decide +kernel
theorem dX1_learn_9 : decode cX1_learn 9 = .ok (.iconst 0, 1) := by decide +kernel
theorem dX1_learn_10 : decode cX1_learn 10 = .ok (.istore_n 3, 1) := by decide +kernel
theorem dX1_learn_11 : decode cX1_learn 11 = .ok (.iload_n 3, 1) := by decide +kernel
theorem dX1_learn_12 : decode cX1_learn 12 = .ok (.aload_n 0, 1) := by decide +kernel
theorem dX1_learn_13 : decode cX1_learn 13 = .ok (.getfield 9, 3) := by decide +kernel
theorem dX1_learn_16 : decode cX1_learn 16 = .ok (.if_icmp .ge 41, 3) := by decide +kernel
theorem dX1_learn_19 : decode cX1_learn 19 = .ok (.aload_n 0, 1) := by decide +kernel
theorem dX1_learn_20 : decode cX1_learn 20 = .ok (.getfield 28, 3) := by decide +kernel
theorem dX1_learn_23 : decode cX1_learn 23 = .ok (.iload_n 1, 1) := by decide +kernel
theorem dX1_learn_24 : decode cX1_learn 24 = .ok (.iconst 4, 1) := by decide +kernel
theorem dX1_learn_25 : decode cX1_learn 25 = .ok (.imul, 1) := by decide +kernel
theorem dX1_learn_26 : decode cX1_learn 26 = .ok (.iload_n 3, 1) := by decide +kernel
theorem dX1_learn_27 : decode cX1_learn 27 = .ok (.iadd, 1) := by decide +kernel
theorem dX1_learn_28 : decode cX1_learn 28 = .ok (.aload_n 0, 1) := by decide +kernel
theorem dX1_learn_29 : decode cX1_learn 29 = .ok (.getfield 46, 3) := by decide +kernel
theorem dX1_learn_32 : decode cX1_learn 32 = .ok (.iload_n 3, 1) := by decide +kernel
theorem dX1_learn_33 : decode cX1_learn 33 = .ok (.iaload, 1) := by decide +kernel
theorem dX1_learn_34 : decode cX1_learn 34 = .ok (.iastore, 1) := by decide +kernel
theorem dX1_learn_35 : decode cX1_learn 35 = .ok (.aload_n 0, 1) := by decide +kernel
theorem dX1_learn_36 : decode cX1_learn 36 = .ok (.getfield 31, 3) := by decide +kernel
theorem dX1_learn_39 : decode cX1_learn 39 = .ok (.iload_n 1, 1) := by decide +kernel
theorem dX1_learn_40 : decode cX1_learn 40 = .ok (.iconst 4, 1) := by decide +kernel
theorem dX1_learn_41 : decode cX1_learn 41 = .ok (.imul, 1) := by decide +kernel
theorem dX1_learn_42 : decode cX1_learn 42 = .ok (.aload_n 0, 1) := by decide +kernel
theorem dX1_learn_43 : decode cX1_learn 43 = .ok (.getfield 46, 3) := by decide +kernel
theorem dX1_learn_46 : decode cX1_learn 46 = .ok (.iload_n 3, 1) := by decide +kernel
theorem dX1_learn_47 : decode cX1_learn 47 = .ok (.iaload, 1) := by decide +kernel
theorem dX1_learn_48 : decode cX1_learn 48 = .ok (.iadd, 1) := by decide +kernel
theorem dX1_learn_49 : decode cX1_learn 49 = .ok (.iload_n 3, 1) := by decide +kernel
theorem dX1_learn_50 : decode cX1_learn 50 = .ok (.iastore, 1) := by decide +kernel
theorem dX1_learn_51 : decode cX1_learn 51 = .ok (.iinc 3 1, 3) := by decide +kernel
theorem dX1_learn_54 : decode cX1_learn 54 = .ok (.goto (-43), 3) := by decide +kernel
theorem dX1_learn_57 : decode cX1_learn 57 = .ok (.return_, 1) := by decide +kernel
theorem dX1_orderOf_0 : decode cX1_orderOf 0 = .ok (.iconst 0, 1) := by decide +kernel
theorem dX1_orderOf_1 : decode cX1_orderOf 1 = .ok (.istore_n 2, 1) := by decide +kernel
theorem dX1_orderOf_2 : decode cX1_orderOf 2 = .ok (.iload_n 2, 1) := by decide +kernel
theorem dX1_orderOf_3 : decode cX1_orderOf 3 = .ok (.aload_n 0, 1) := by decide +kernel
theorem dX1_orderOf_4 : decode cX1_orderOf 4 = .ok (.getfield 9, 3) := by decide +kernel
theorem dX1_orderOf_7 : decode cX1_orderOf 7 = .ok (.if_icmp .ge 25, 3) := by decide +kernel
theorem dX1_orderOf_10 : decode cX1_orderOf 10 = .ok (.aload_n 0, 1) := by decide +kernel
theorem dX1_orderOf_11 : decode cX1_orderOf 11 = .ok (.getfield 46, 3) := by decide +kernel
theorem dX1_orderOf_14 : decode cX1_orderOf 14 = .ok (.iload_n 2, 1) := by decide +kernel
theorem dX1_orderOf_15 : decode cX1_orderOf 15 = .ok (.aload_n 0, 1) := by decide +kernel
theorem dX1_orderOf_16 : decode cX1_orderOf 16 = .ok (.getfield 28, 3) := by decide +kernel
theorem dX1_orderOf_19 : decode cX1_orderOf 19 = .ok (.iload_n 1, 1) := by decide +kernel
theorem dX1_orderOf_20 : decode cX1_orderOf 20 = .ok (.iconst 4, 1) := by decide +kernel
theorem dX1_orderOf_21 : decode cX1_orderOf 21 = .ok (.imul, 1) := by decide +kernel
theorem dX1_orderOf_22 : decode cX1_orderOf 22 = .ok (.iload_n 2, 1) := by decide +kernel
theorem dX1_orderOf_23 : decode cX1_orderOf 23 = .ok (.iadd, 1) := by decide +kernel
theorem dX1_orderOf_24 : decode cX1_orderOf 24 = .ok (.iaload, 1) := by decide +kernel
theorem dX1_orderOf_25 : decode cX1_orderOf 25 = .ok (.iastore, 1) := by decide +kernel
theorem dX1_orderOf_26 : decode cX1_orderOf 26 = .ok (.iinc 2 1, 3) := by decide +kernel
theorem dX1_orderOf_29 : decode cX1_orderOf 29 = .ok (.goto (-27), 3) := by decide +kernel
theorem dX1_orderOf_32 : decode cX1_orderOf 32 = .ok (.aload_n 0, 1) := by decide +kernel
theorem dX1_orderOf_33 : decode cX1_orderOf 33 = .ok (.aload_n 0, 1) := by decide +kernel
theorem dX1_orderOf_34 : decode cX1_orderOf 34 = .ok (.getfield 46, 3) := by decide +kernel
theorem dX1_orderOf_37 : decode cX1_orderOf 37 = .ok (.invokevirtual 53, 3) := by decide +kernel
theorem dX1_orderOf_40 : decode cX1_orderOf 40 = .ok (.ireturn, 1) := by decide +kernel
theorem dX1_placeFor_0 : decode cX1_placeFor 0 = .ok (.aload_n 0, 1) := by decide +kernel
theorem dX1_placeFor_1 : decode cX1_placeFor 1 = .ok (.getfield 31, 3) := by decide +kernel
theorem dX1_placeFor_4 : decode cX1_placeFor 4 = .ok (.iload_n 1, 1) := by decide +kernel
theorem dX1_placeFor_5 : decode cX1_placeFor 5 = .ok (.iconst 4, 1) := by decide +kernel
theorem dX1_placeFor_6 : decode cX1_placeFor 6 = .ok (.imul, 1) := by decide +kernel
theorem dX1_placeFor_7 : decode cX1_placeFor 7 = .ok (.iload_n 2, 1) := by decide +kernel
theorem dX1_placeFor_8 : decode cX1_placeFor 8 = .ok (.iadd, 1) := by decide +kernel
theorem dX1_placeFor_9 : decode cX1_placeFor 9 = .ok (.iaload, 1) := by decide +kernel
theorem dX1_placeFor_10 : decode cX1_placeFor 10 = .ok (.ireturn, 1) := by decide +kernel
theorem dX1_bestOf_0 : decode cX1_bestOf 0 = .ok (.iconst 0, 1) := by decide +kernel
theorem dX1_bestOf_1 : decode cX1_bestOf 1 = .ok (.istore_n 3, 1) := by decide +kernel
theorem dX1_bestOf_2 : decode cX1_bestOf 2 = .ok (.iload_n 3, 1) := by decide +kernel
theorem dX1_bestOf_3 : decode cX1_bestOf 3 = .ok (.aload_n 0, 1) := by decide +kernel
theorem dX1_bestOf_4 : decode cX1_bestOf 4 = .ok (.getfield 9, 3) := by decide +kernel
theorem dX1_bestOf_7 : decode cX1_bestOf 7 = .ok (.if_icmp .ge 34, 3) := by decide +kernel
theorem dX1_bestOf_10 : decode cX1_bestOf 10 = .ok (.aload_n 0, 1) := by decide +kernel
theorem dX1_bestOf_11 : decode cX1_bestOf 11 = .ok (.getfield 28, 3) := by decide +kernel
theorem dX1_bestOf_14 : decode cX1_bestOf 14 = .ok (.iload_n 1, 1) := by decide +kernel
theorem dX1_bestOf_15 : decode cX1_bestOf 15 = .ok (.iconst 4, 1) := by decide +kernel
theorem dX1_bestOf_16 : decode cX1_bestOf 16 = .ok (.imul, 1) := by decide +kernel
theorem dX1_bestOf_17 : decode cX1_bestOf 17 = .ok (.iload_n 3, 1) := by decide +kernel
theorem dX1_bestOf_18 : decode cX1_bestOf 18 = .ok (.iadd, 1) := by decide +kernel
theorem dX1_bestOf_19 : decode cX1_bestOf 19 = .ok (.iaload, 1) := by decide +kernel
theorem dX1_bestOf_20 : decode cX1_bestOf 20 = .ok (.istore 4, 2) := by decide +kernel
theorem dX1_bestOf_22 : decode cX1_bestOf 22 = .ok (.iload_n 2, 1) := by decide +kernel
theorem dX1_bestOf_23 : decode cX1_bestOf 23 = .ok (.iload 4, 2) := by decide +kernel
theorem dX1_bestOf_25 : decode cX1_bestOf 25 = .ok (.ishr, 1) := by decide +kernel
theorem dX1_bestOf_26 : decode cX1_bestOf 26 = .ok (.iconst 1, 1) := by decide +kernel
theorem dX1_bestOf_27 : decode cX1_bestOf 27 = .ok (.iand, 1) := by decide +kernel
theorem dX1_bestOf_28 : decode cX1_bestOf 28 = .ok (.iconst 1, 1) := by decide +kernel
theorem dX1_bestOf_29 : decode cX1_bestOf 29 = .ok (.if_icmp .ne 6, 3) := by decide +kernel
theorem dX1_bestOf_32 : decode cX1_bestOf 32 = .ok (.iload 4, 2) := by decide +kernel
theorem dX1_bestOf_34 : decode cX1_bestOf 34 = .ok (.ireturn, 1) := by decide +kernel
theorem dX1_bestOf_35 : decode cX1_bestOf 35 = .ok (.iinc 3 1, 3) := by decide +kernel
theorem dX1_bestOf_38 : decode cX1_bestOf 38 = .ok (.goto (-36), 3) := by decide +kernel
theorem dX1_bestOf_41 : decode cX1_bestOf 41 = .ok (.iconst 0, 1) := by decide +kernel
theorem dX1_bestOf_42 : decode cX1_bestOf 42 = .ok (.ireturn, 1) := by decide +kernel
theorem dX1_tradeByRings_0 : decode cX1_tradeByRings 0 = .ok (.iconst 1, 1) := by decide +kernel
theorem dX1_tradeByRings_1 : decode cX1_tradeByRings 1 = .ok (.aload_n 0, 1) := by decide +kernel
theorem dX1_tradeByRings_2 : decode cX1_tradeByRings 2 = .ok (.getfield 9, 3) := by decide +kernel
theorem dX1_tradeByRings_5 : decode cX1_tradeByRings 5 = .ok (.ishl, 1) := by decide +kernel
theorem dX1_tradeByRings_6 : decode cX1_tradeByRings 6 = .ok (.iconst 1, 1) := by decide +kernel
theorem dX1_tradeByRings_7 : decode cX1_tradeByRings 7 = .ok (.isub, 1) := by decide +kernel
theorem dX1_tradeByRings_8 : decode cX1_tradeByRings 8 = .ok (.istore_n 1, 1) := by decide +kernel
theorem dX1_tradeByRings_9 : decode cX1_tradeByRings 9 = .ok (.iconst 1, 1) := by decide +kernel
theorem dX1_tradeByRings_10 : decode cX1_tradeByRings 10 = .ok (.istore_n 2, 1) := by decide +kernel
theorem dX1_tradeByRings_11 : decode cX1_tradeByRings 11 = .ok (.iload_n 2, 1) := by decide +kernel
theorem dX1_tradeByRings_12 : decode cX1_tradeByRings 12 = .ok (.aload_n 0, 1) := by decide +kernel
theorem dX1_tradeByRings_13 : decode cX1_tradeByRings 13 = .ok (.getfield 9, 3) := by decide +kernel
theorem dX1_tradeByRings_16 : decode cX1_tradeByRings 16 = .ok (.if_icmp .gt 20, 3) := by decide +kernel
theorem dX1_tradeByRings_19 : decode cX1_tradeByRings 19 = .ok (.iload_n 1, 1) := by decide +kernel
theorem dX1_tradeByRings_20 : decode cX1_tradeByRings 20 = .ok (.ifCond .eq 16, 3) := by decide +kernel
theorem dX1_tradeByRings_23 : decode cX1_tradeByRings 23 = .ok (.aload_n 0, 1) := by decide +kernel
theorem dX1_tradeByRings_24 : decode cX1_tradeByRings 24 = .ok (.iload_n 1, 1) := by decide +kernel
theorem dX1_tradeByRings_25 : decode cX1_tradeByRings 25 = .ok (.iload_n 2, 1) := by decide +kernel
theorem dX1_tradeByRings_26 : decode cX1_tradeByRings 26 = .ok (.invokevirtual 57, 3) := by decide +kernel
theorem dX1_tradeByRings_29 : decode cX1_tradeByRings 29 = .ok (.istore_n 1, 1) := by decide +kernel
theorem dX1_tradeByRings_30 : decode cX1_tradeByRings 30 = .ok (.iinc 2 1, 3) := by decide +kernel
theorem dX1_tradeByRings_33 : decode cX1_tradeByRings 33 = .ok (.goto (-22), 3) := by decide +kernel
theorem dX1_tradeByRings_36 : decode cX1_tradeByRings 36 = .ok (.aload_n 0, 1) := by decide +kernel
theorem dX1_tradeByRings_37 : decode cX1_tradeByRings 37 = .ok (.aload_n 0, 1) := by decide +kernel
theorem dX1_tradeByRings_38 : decode cX1_tradeByRings 38 = .ok (.getfield 37, 3) := by decide +kernel
theorem dX1_tradeByRings_41 : decode cX1_tradeByRings 41 = .ok (.invokevirtual 53, 3) := by decide +kernel
theorem dX1_tradeByRings_44 : decode cX1_tradeByRings 44 = .ok (.ireturn, 1) := by decide +kernel
theorem dX1_leaveByRings_0 : decode cX1_leaveByRings 0 = .ok (.iconst 0, 1) := by decide +kernel
theorem dX1_leaveByRings_1 : decode cX1_leaveByRings 1 = .ok (.istore_n 3, 1) := by decide +kernel
theorem dX1_leaveByRings_2 : decode cX1_leaveByRings 2 = .ok (.iload_n 3, 1) := by decide +kernel
theorem dX1_leaveByRings_3 : decode cX1_leaveByRings 3 = .ok (.aload_n 0, 1) := by decide +kernel
theorem dX1_leaveByRings_4 : decode cX1_leaveByRings 4 = .ok (.getfield 9, 3) := by decide +kernel
theorem dX1_leaveByRings_7 : decode cX1_leaveByRings 7 = .ok (.if_icmp .ge 21, 3) := by decide +kernel
theorem dX1_leaveByRings_10 : decode cX1_leaveByRings 10 = .ok (.aload_n 0, 1) := by decide +kernel
theorem dX1_leaveByRings_11 : decode cX1_leaveByRings 11 = .ok (.getfield 34, 3) := by decide +kernel
theorem dX1_leaveByRings_14 : decode cX1_leaveByRings 14 = .ok (.iload_n 3, 1) := by decide +kernel
theorem dX1_leaveByRings_15 : decode cX1_leaveByRings 15 = .ok (.aload_n 0, 1) := by decide +kernel
theorem dX1_leaveByRings_16 : decode cX1_leaveByRings 16 = .ok (.iload_n 3, 1) := by decide +kernel
theorem dX1_leaveByRings_17 : decode cX1_leaveByRings 17 = .ok (.iload_n 1, 1) := by decide +kernel
theorem dX1_leaveByRings_18 : decode cX1_leaveByRings 18 = .ok (.invokevirtual 61, 3) := by decide +kernel
theorem dX1_leaveByRings_21 : decode cX1_leaveByRings 21 = .ok (.iastore, 1) := by decide +kernel
theorem dX1_leaveByRings_22 : decode cX1_leaveByRings 22 = .ok (.iinc 3 1, 3) := by decide +kernel
theorem dX1_leaveByRings_25 : decode cX1_leaveByRings 25 = .ok (.goto (-23), 3) := by decide +kernel
theorem dX1_leaveByRings_28 : decode cX1_leaveByRings 28 = .ok (.iload_n 1, 1) := by decide +kernel
theorem dX1_leaveByRings_29 : decode cX1_leaveByRings 29 = .ok (.istore_n 3, 1) := by decide +kernel
theorem dX1_leaveByRings_30 : decode cX1_leaveByRings 30 = .ok (.iconst 0, 1) := by decide +kernel
theorem dX1_leaveByRings_31 : decode cX1_leaveByRings 31 = .ok (.istore 4, 2) := by decide +kernel
theorem dX1_leaveByRings_33 : decode cX1_leaveByRings 33 = .ok (.iload 4, 2) := by decide +kernel
theorem dX1_leaveByRings_35 : decode cX1_leaveByRings 35 = .ok (.aload_n 0, 1) := by decide +kernel
theorem dX1_leaveByRings_36 : decode cX1_leaveByRings 36 = .ok (.getfield 9, 3) := by decide +kernel
theorem dX1_leaveByRings_39 : decode cX1_leaveByRings 39 = .ok (.if_icmp .ge 59, 3) := by decide +kernel
theorem dX1_leaveByRings_42 : decode cX1_leaveByRings 42 = .ok (.iload_n 1, 1) := by decide +kernel
theorem dX1_leaveByRings_43 : decode cX1_leaveByRings 43 = .ok (.iload 4, 2) := by decide +kernel
theorem dX1_leaveByRings_45 : decode cX1_leaveByRings 45 = .ok (.ishr, 1) := by decide +kernel
theorem dX1_leaveByRings_46 : decode cX1_leaveByRings 46 = .ok (.iconst 1, 1) := by decide +kernel
theorem dX1_leaveByRings_47 : decode cX1_leaveByRings 47 = .ok (.iand, 1) := by decide +kernel
theorem dX1_leaveByRings_48 : decode cX1_leaveByRings 48 = .ok (.iconst 1, 1) := by decide +kernel
theorem dX1_leaveByRings_49 : decode cX1_leaveByRings 49 = .ok (.if_icmp .ne 43, 3) := by decide +kernel
theorem dX1_leaveByRings_52 : decode cX1_leaveByRings 52 = .ok (.aload_n 0, 1) := by decide +kernel
theorem dX1_leaveByRings_53 : decode cX1_leaveByRings 53 = .ok (.iload 4, 2) := by decide +kernel
theorem dX1_leaveByRings_55 : decode cX1_leaveByRings 55 = .ok (.invokevirtual 64, 3) := by decide +kernel
theorem dX1_leaveByRings_58 : decode cX1_leaveByRings 58 = .ok (.ifCond .eq 34, 3) := by decide +kernel
theorem dX1_leaveByRings_61 : decode cX1_leaveByRings 61 = .ok (.aload_n 0, 1) := by decide +kernel
theorem dX1_leaveByRings_62 : decode cX1_leaveByRings 62 = .ok (.getfield 37, 3) := by decide +kernel
theorem dX1_leaveByRings_65 : decode cX1_leaveByRings 65 = .ok (.iload 4, 2) := by decide +kernel
theorem dX1_leaveByRings_67 : decode cX1_leaveByRings 67 = .ok (.aload_n 0, 1) := by decide +kernel
theorem dX1_leaveByRings_68 : decode cX1_leaveByRings 68 = .ok (.getfield 34, 3) := by decide +kernel
theorem dX1_leaveByRings_71 : decode cX1_leaveByRings 71 = .ok (.iload 4, 2) := by decide +kernel
theorem dX1_leaveByRings_73 : decode cX1_leaveByRings 73 = .ok (.iaload, 1) := by decide +kernel
theorem dX1_leaveByRings_74 : decode cX1_leaveByRings 74 = .ok (.iastore, 1) := by decide +kernel
theorem dX1_leaveByRings_75 : decode cX1_leaveByRings 75 = .ok (.aload_n 0, 1) := by decide +kernel
theorem dX1_leaveByRings_76 : decode cX1_leaveByRings 76 = .ok (.getfield 40, 3) := by decide +kernel
theorem dX1_leaveByRings_79 : decode cX1_leaveByRings 79 = .ok (.iload 4, 2) := by decide +kernel
theorem dX1_leaveByRings_81 : decode cX1_leaveByRings 81 = .ok (.iload_n 2, 1) := by decide +kernel
theorem dX1_leaveByRings_82 : decode cX1_leaveByRings 82 = .ok (.iastore, 1) := by decide +kernel
theorem dX1_leaveByRings_83 : decode cX1_leaveByRings 83 = .ok (.iload_n 3, 1) := by decide +kernel
theorem dX1_leaveByRings_84 : decode cX1_leaveByRings 84 = .ok (.iconst 1, 1) := by decide +kernel
theorem dX1_leaveByRings_85 : decode cX1_leaveByRings 85 = .ok (.iload 4, 2) := by decide +kernel
theorem dX1_leaveByRings_87 : decode cX1_leaveByRings 87 = .ok (.ishl, 1) := by decide +kernel
theorem dX1_leaveByRings_88 : decode cX1_leaveByRings 88 = .ok (.iconst (-1), 1) := by decide +kernel
theorem dX1_leaveByRings_89 : decode cX1_leaveByRings 89 = .ok (.ixor, 1) := by decide +kernel
theorem dX1_leaveByRings_90 : decode cX1_leaveByRings 90 = .ok (.iand, 1) := by decide +kernel
theorem dX1_leaveByRings_91 : decode cX1_leaveByRings 91 = .ok (.istore_n 3, 1) := by decide +kernel
theorem dX1_leaveByRings_92 : decode cX1_leaveByRings 92 = .ok (.iinc 4 1, 3) := by decide +kernel
theorem dX1_leaveByRings_95 : decode cX1_leaveByRings 95 = .ok (.goto (-62), 3) := by decide +kernel
theorem dX1_leaveByRings_98 : decode cX1_leaveByRings 98 = .ok (.iload_n 3, 1) := by decide +kernel
theorem dX1_leaveByRings_99 : decode cX1_leaveByRings 99 = .ok (.ireturn, 1) := by decide +kernel
theorem dX1_isOnRing_0 : decode cX1_isOnRing 0 = .ok (.aload_n 0, 1) := by decide +kernel
theorem dX1_isOnRing_1 : decode cX1_isOnRing 1 = .ok (.getfield 34, 3) := by decide +kernel
theorem dX1_isOnRing_4 : decode cX1_isOnRing 4 = .ok (.iload_n 1, 1) := by decide +kernel
theorem dX1_isOnRing_5 : decode cX1_isOnRing 5 = .ok (.iaload, 1) := by decide +kernel
theorem dX1_isOnRing_6 : decode cX1_isOnRing 6 = .ok (.istore_n 2, 1) := by decide +kernel
theorem dX1_isOnRing_7 : decode cX1_isOnRing 7 = .ok (.iconst 1, 1) := by decide +kernel
theorem dX1_isOnRing_8 : decode cX1_isOnRing 8 = .ok (.istore_n 3, 1) := by decide +kernel
theorem dX1_isOnRing_9 : decode cX1_isOnRing 9 = .ok (.iload_n 3, 1) := by decide +kernel
theorem dX1_isOnRing_10 : decode cX1_isOnRing 10 = .ok (.aload_n 0, 1) := by decide +kernel
theorem dX1_isOnRing_11 : decode cX1_isOnRing 11 = .ok (.getfield 9, 3) := by decide +kernel
theorem dX1_isOnRing_14 : decode cX1_isOnRing 14 = .ok (.if_icmp .ge 21, 3) := by decide +kernel
theorem dX1_isOnRing_17 : decode cX1_isOnRing 17 = .ok (.iload_n 2, 1) := by decide +kernel
theorem dX1_isOnRing_18 : decode cX1_isOnRing 18 = .ok (.iload_n 1, 1) := by decide +kernel
theorem dX1_isOnRing_19 : decode cX1_isOnRing 19 = .ok (.if_icmp .eq 16, 3) := by decide +kernel
theorem dX1_isOnRing_22 : decode cX1_isOnRing 22 = .ok (.aload_n 0, 1) := by decide +kernel
theorem dX1_isOnRing_23 : decode cX1_isOnRing 23 = .ok (.getfield 34, 3) := by decide +kernel
theorem dX1_isOnRing_26 : decode cX1_isOnRing 26 = .ok (.iload_n 2, 1) := by decide +kernel
theorem dX1_isOnRing_27 : decode cX1_isOnRing 27 = .ok (.iaload, 1) := by decide +kernel
theorem dX1_isOnRing_28 : decode cX1_isOnRing 28 = .ok (.istore_n 2, 1) := by decide +kernel
theorem dX1_isOnRing_29 : decode cX1_isOnRing 29 = .ok (.iinc 3 1, 3) := by decide +kernel
theorem dX1_isOnRing_32 : decode cX1_isOnRing 32 = .ok (.goto (-23), 3) := by decide +kernel
theorem dX1_isOnRing_35 : decode cX1_isOnRing 35 = .ok (.iload_n 2, 1) := by decide +kernel
theorem dX1_isOnRing_36 : decode cX1_isOnRing 36 = .ok (.iload_n 1, 1) := by decide +kernel
theorem dX1_isOnRing_37 : decode cX1_isOnRing 37 = .ok (.if_icmp .ne 7, 3) := by decide +kernel
theorem dX1_isOnRing_40 : decode cX1_isOnRing 40 = .ok (.iconst 1, 1) := by decide +kernel
theorem dX1_isOnRing_41 : decode cX1_isOnRing 41 = .ok (.goto 4, 3) := by decide +kernel
theorem dX1_isOnRing_44 : decode cX1_isOnRing 44 = .ok (.iconst 0, 1) := by decide +kernel
theorem dX1_isOnRing_45 : decode cX1_isOnRing 45 = .ok (.ireturn, 1) := by decide +kernel
theorem dX1_tradeByTurns_0 : decode cX1_tradeByTurns 0 = .ok (.aload_n 0, 1) := by decide +kernel
theorem dX1_tradeByTurns_1 : decode cX1_tradeByTurns 1 = .ok (.iload_n 1, 1) := by decide +kernel
theorem dX1_tradeByTurns_2 : decode cX1_tradeByTurns 2 = .ok (.aload_n 0, 1) := by decide +kernel
theorem dX1_tradeByTurns_3 : decode cX1_tradeByTurns 3 = .ok (.getfield 46, 3) := by decide +kernel
theorem dX1_tradeByTurns_6 : decode cX1_tradeByTurns 6 = .ok (.invokevirtual 49, 3) := by decide +kernel
theorem dX1_tradeByTurns_9 : decode cX1_tradeByTurns 9 = .ok (.iconst 1, 1) := by decide +kernel
theorem dX1_tradeByTurns_10 : decode cX1_tradeByTurns 10 = .ok (.aload_n 0, 1) := by decide +kernel
theorem dX1_tradeByTurns_11 : decode cX1_tradeByTurns 11 = .ok (.getfield 9, 3) := by decide +kernel
theorem dX1_tradeByTurns_14 : decode cX1_tradeByTurns 14 = .ok (.ishl, 1) := by decide +kernel
theorem dX1_tradeByTurns_15 : decode cX1_tradeByTurns 15 = .ok (.iconst 1, 1) := by decide +kernel
theorem dX1_tradeByTurns_16 : decode cX1_tradeByTurns 16 = .ok (.isub, 1) := by decide +kernel
theorem dX1_tradeByTurns_17 : decode cX1_tradeByTurns 17 = .ok (.istore_n 2, 1) := by decide +kernel
theorem dX1_tradeByTurns_18 : decode cX1_tradeByTurns 18 = .ok (.iconst 0, 1) := by decide +kernel
theorem dX1_tradeByTurns_19 : decode cX1_tradeByTurns 19 = .ok (.istore_n 3, 1) := by decide +kernel
theorem dX1_tradeByTurns_20 : decode cX1_tradeByTurns 20 = .ok (.iload_n 3, 1) := by decide +kernel
theorem dX1_tradeByTurns_21 : decode cX1_tradeByTurns 21 = .ok (.aload_n 0, 1) := by decide +kernel
theorem dX1_tradeByTurns_22 : decode cX1_tradeByTurns 22 = .ok (.getfield 9, 3) := by decide +kernel
theorem dX1_tradeByTurns_25 : decode cX1_tradeByTurns 25 = .ok (.if_icmp .ge 45, 3) := by decide +kernel
theorem dX1_tradeByTurns_28 : decode cX1_tradeByTurns 28 = .ok (.aload_n 0, 1) := by decide +kernel
theorem dX1_tradeByTurns_29 : decode cX1_tradeByTurns 29 = .ok (.getfield 46, 3) := by decide +kernel
theorem dX1_tradeByTurns_32 : decode cX1_tradeByTurns 32 = .ok (.iload_n 3, 1) := by decide +kernel
theorem dX1_tradeByTurns_33 : decode cX1_tradeByTurns 33 = .ok (.iaload, 1) := by decide +kernel
theorem dX1_tradeByTurns_34 : decode cX1_tradeByTurns 34 = .ok (.istore 4, 2) := by decide +kernel
theorem dX1_tradeByTurns_36 : decode cX1_tradeByTurns 36 = .ok (.aload_n 0, 1) := by decide +kernel
theorem dX1_tradeByTurns_37 : decode cX1_tradeByTurns 37 = .ok (.getfield 37, 3) := by decide +kernel
theorem dX1_tradeByTurns_40 : decode cX1_tradeByTurns 40 = .ok (.iload 4, 2) := by decide +kernel
theorem dX1_tradeByTurns_42 : decode cX1_tradeByTurns 42 = .ok (.aload_n 0, 1) := by decide +kernel
theorem dX1_tradeByTurns_43 : decode cX1_tradeByTurns 43 = .ok (.iload 4, 2) := by decide +kernel
theorem dX1_tradeByTurns_45 : decode cX1_tradeByTurns 45 = .ok (.iload_n 2, 1) := by decide +kernel
theorem dX1_tradeByTurns_46 : decode cX1_tradeByTurns 46 = .ok (.invokevirtual 61, 3) := by decide +kernel
theorem dX1_tradeByTurns_49 : decode cX1_tradeByTurns 49 = .ok (.iastore, 1) := by decide +kernel
theorem dX1_tradeByTurns_50 : decode cX1_tradeByTurns 50 = .ok (.iload_n 2, 1) := by decide +kernel
theorem dX1_tradeByTurns_51 : decode cX1_tradeByTurns 51 = .ok (.iconst 1, 1) := by decide +kernel
theorem dX1_tradeByTurns_52 : decode cX1_tradeByTurns 52 = .ok (.aload_n 0, 1) := by decide +kernel
theorem dX1_tradeByTurns_53 : decode cX1_tradeByTurns 53 = .ok (.getfield 37, 3) := by decide +kernel
theorem dX1_tradeByTurns_56 : decode cX1_tradeByTurns 56 = .ok (.iload 4, 2) := by decide +kernel
theorem dX1_tradeByTurns_58 : decode cX1_tradeByTurns 58 = .ok (.iaload, 1) := by decide +kernel
theorem dX1_tradeByTurns_59 : decode cX1_tradeByTurns 59 = .ok (.ishl, 1) := by decide +kernel
theorem dX1_tradeByTurns_60 : decode cX1_tradeByTurns 60 = .ok (.iconst (-1), 1) := by decide +kernel
theorem dX1_tradeByTurns_61 : decode cX1_tradeByTurns 61 = .ok (.ixor, 1) := by decide +kernel
theorem dX1_tradeByTurns_62 : decode cX1_tradeByTurns 62 = .ok (.iand, 1) := by decide +kernel
theorem dX1_tradeByTurns_63 : decode cX1_tradeByTurns 63 = .ok (.istore_n 2, 1) := by decide +kernel
theorem dX1_tradeByTurns_64 : decode cX1_tradeByTurns 64 = .ok (.iinc 3 1, 3) := by decide +kernel
theorem dX1_tradeByTurns_67 : decode cX1_tradeByTurns 67 = .ok (.goto (-47), 3) := by decide +kernel
theorem dX1_tradeByTurns_70 : decode cX1_tradeByTurns 70 = .ok (.aload_n 0, 1) := by decide +kernel
theorem dX1_tradeByTurns_71 : decode cX1_tradeByTurns 71 = .ok (.aload_n 0, 1) := by decide +kernel
theorem dX1_tradeByTurns_72 : decode cX1_tradeByTurns 72 = .ok (.getfield 37, 3) := by decide +kernel
theorem dX1_tradeByTurns_75 : decode cX1_tradeByTurns 75 = .ok (.invokevirtual 53, 3) := by decide +kernel
theorem dX1_tradeByTurns_78 : decode cX1_tradeByTurns 78 = .ok (.ireturn, 1) := by decide +kernel
theorem dX1_leastBlocking_0 : decode cX1_leastBlocking 0 = .ok (.aload_n 0, 1) := by decide +kernel
theorem dX1_leastBlocking_1 : decode cX1_leastBlocking 1 = .ok (.iload_n 1, 1) := by decide +kernel
theorem dX1_leastBlocking_2 : decode cX1_leastBlocking 2 = .ok (.aload_n 0, 1) := by decide +kernel
theorem dX1_leastBlocking_3 : decode cX1_leastBlocking 3 = .ok (.getfield 43, 3) := by decide +kernel
theorem dX1_leastBlocking_6 : decode cX1_leastBlocking 6 = .ok (.invokevirtual 49, 3) := by decide +kernel
theorem dX1_leastBlocking_9 : decode cX1_leastBlocking 9 = .ok (.iconst 1, 1) := by decide +kernel
theorem dX1_leastBlocking_10 : decode cX1_leastBlocking 10 = .ok (.istore_n 2, 1) := by decide +kernel
theorem dX1_leastBlocking_11 : decode cX1_leastBlocking 11 = .ok (.iload_n 2, 1) := by decide +kernel
theorem dX1_leastBlocking_12 : decode cX1_leastBlocking 12 = .ok (.iconst 1, 1) := by decide +kernel
theorem dX1_leastBlocking_13 : decode cX1_leastBlocking 13 = .ok (.aload_n 0, 1) := by decide +kernel
theorem dX1_leastBlocking_14 : decode cX1_leastBlocking 14 = .ok (.getfield 9, 3) := by decide +kernel
theorem dX1_leastBlocking_17 : decode cX1_leastBlocking 17 = .ok (.ishl, 1) := by decide +kernel
theorem dX1_leastBlocking_18 : decode cX1_leastBlocking 18 = .ok (.if_icmp .ge 68, 3) := by decide +kernel
theorem dX1_leastBlocking_21 : decode cX1_leastBlocking 21 = .ok (.aload_n 0, 1) := by decide +kernel
theorem dX1_leastBlocking_22 : decode cX1_leastBlocking 22 = .ok (.getfield 25, 3) := by decide +kernel
theorem dX1_leastBlocking_25 : decode cX1_leastBlocking 25 = .ok (.astore_n 3, 1) := by decide +kernel
theorem dX1_leastBlocking_26 : decode cX1_leastBlocking 26 = .ok (.aload_n 3, 1) := by decide +kernel
theorem dX1_leastBlocking_27 : decode cX1_leastBlocking 27 = .ok (.arraylength, 1) := by decide +kernel
theorem dX1_leastBlocking_28 : decode cX1_leastBlocking 28 = .ok (.istore 4, 2) := by decide +kernel
theorem dX1_leastBlocking_30 : decode cX1_leastBlocking 30 = .ok (.iconst 0, 1) := by decide +kernel
theorem dX1_leastBlocking_31 : decode cX1_leastBlocking 31 = .ok (.istore 5, 2) := by decide +kernel
theorem dX1_leastBlocking_33 : decode cX1_leastBlocking 33 = .ok (.iload 5, 2) := by decide +kernel
theorem dX1_leastBlocking_35 : decode cX1_leastBlocking 35 = .ok (.iload 4, 2) := by decide +kernel
theorem dX1_leastBlocking_37 : decode cX1_leastBlocking 37 = .ok (.if_icmp .ge 43, 3) := by decide +kernel
theorem dX1_leastBlocking_40 : decode cX1_leastBlocking 40 = .ok (.aload_n 3, 1) := by decide +kernel
theorem dX1_leastBlocking_41 : decode cX1_leastBlocking 41 = .ok (.iload 5, 2) := by decide +kernel
theorem dX1_leastBlocking_43 : decode cX1_leastBlocking 43 = .ok (.iaload, 1) := by decide +kernel
theorem dX1_leastBlocking_44 : decode cX1_leastBlocking 44 = .ok (.istore 6, 2) := by decide +kernel
theorem dX1_leastBlocking_46 : decode cX1_leastBlocking 46 = .ok (.aload_n 0, 1) := by decide +kernel
theorem dX1_leastBlocking_47 : decode cX1_leastBlocking 47 = .ok (.iload 6, 2) := by decide +kernel
theorem dX1_leastBlocking_49 : decode cX1_leastBlocking 49 = .ok (.aload_n 0, 1) := by decide +kernel
theorem dX1_leastBlocking_50 : decode cX1_leastBlocking 50 = .ok (.getfield 46, 3) := by decide +kernel
theorem dX1_leastBlocking_53 : decode cX1_leastBlocking 53 = .ok (.invokevirtual 49, 3) := by decide +kernel
theorem dX1_leastBlocking_56 : decode cX1_leastBlocking 56 = .ok (.aload_n 0, 1) := by decide +kernel
theorem dX1_leastBlocking_57 : decode cX1_leastBlocking 57 = .ok (.iload_n 2, 1) := by decide +kernel
theorem dX1_leastBlocking_58 : decode cX1_leastBlocking 58 = .ok (.invokevirtual 68, 3) := by decide +kernel
theorem dX1_leastBlocking_61 : decode cX1_leastBlocking 61 = .ok (.ifCond .eq 13, 3) := by decide +kernel
theorem dX1_leastBlocking_64 : decode cX1_leastBlocking 64 = .ok (.aload_n 0, 1) := by decide +kernel
theorem dX1_leastBlocking_65 : decode cX1_leastBlocking 65 = .ok (.iload_n 2, 1) := by decide +kernel
theorem dX1_leastBlocking_66 : decode cX1_leastBlocking 66 = .ok (.invokevirtual 71, 3) := by decide +kernel
theorem dX1_leastBlocking_69 : decode cX1_leastBlocking 69 = .ok (.ifCond .eq 5, 3) := by decide +kernel
theorem dX1_leastBlocking_72 : decode cX1_leastBlocking 72 = .ok (.iload_n 2, 1) := by decide +kernel
theorem dX1_leastBlocking_73 : decode cX1_leastBlocking 73 = .ok (.ireturn, 1) := by decide +kernel
theorem dX1_leastBlocking_74 : decode cX1_leastBlocking 74 = .ok (.iinc 5 1, 3) := by decide +kernel
theorem dX1_leastBlocking_77 : decode cX1_leastBlocking 77 = .ok (.goto (-44), 3) := by decide +kernel
theorem dX1_leastBlocking_80 : decode cX1_leastBlocking 80 = .ok (.iinc 2 1, 3) := by decide +kernel
theorem dX1_leastBlocking_83 : decode cX1_leastBlocking 83 = .ok (.goto (-72), 3) := by decide +kernel
theorem dX1_leastBlocking_86 : decode cX1_leastBlocking 86 = .ok (.iconst 0, 1) := by decide +kernel
theorem dX1_leastBlocking_87 : decode cX1_leastBlocking 87 = .ok (.ireturn, 1) := by decide +kernel
theorem dX1_keepsWithin_0 : decode cX1_keepsWithin 0 = .ok (.iconst 0, 1) := by decide +kernel
theorem dX1_keepsWithin_1 : decode cX1_keepsWithin 1 = .ok (.istore_n 2, 1) := by decide +kernel
theorem dX1_keepsWithin_2 : decode cX1_keepsWithin 2 = .ok (.iload_n 2, 1) := by decide +kernel
theorem dX1_keepsWithin_3 : decode cX1_keepsWithin 3 = .ok (.aload_n 0, 1) := by decide +kernel
theorem dX1_keepsWithin_4 : decode cX1_keepsWithin 4 = .ok (.getfield 9, 3) := by decide +kernel
theorem dX1_keepsWithin_7 : decode cX1_keepsWithin 7 = .ok (.if_icmp .ge 33, 3) := by decide +kernel
theorem dX1_keepsWithin_10 : decode cX1_keepsWithin 10 = .ok (.iload_n 1, 1) := by decide +kernel
theorem dX1_keepsWithin_11 : decode cX1_keepsWithin 11 = .ok (.iload_n 2, 1) := by decide +kernel
theorem dX1_keepsWithin_12 : decode cX1_keepsWithin 12 = .ok (.ishr, 1) := by decide +kernel
theorem dX1_keepsWithin_13 : decode cX1_keepsWithin 13 = .ok (.iconst 1, 1) := by decide +kernel
theorem dX1_keepsWithin_14 : decode cX1_keepsWithin 14 = .ok (.iand, 1) := by decide +kernel
theorem dX1_keepsWithin_15 : decode cX1_keepsWithin 15 = .ok (.iconst 1, 1) := by decide +kernel
theorem dX1_keepsWithin_16 : decode cX1_keepsWithin 16 = .ok (.if_icmp .ne 18, 3) := by decide +kernel
theorem dX1_keepsWithin_19 : decode cX1_keepsWithin 19 = .ok (.iload_n 1, 1) := by decide +kernel
theorem dX1_keepsWithin_20 : decode cX1_keepsWithin 20 = .ok (.aload_n 0, 1) := by decide +kernel
theorem dX1_keepsWithin_21 : decode cX1_keepsWithin 21 = .ok (.getfield 46, 3) := by decide +kernel
theorem dX1_keepsWithin_24 : decode cX1_keepsWithin 24 = .ok (.iload_n 2, 1) := by decide +kernel
theorem dX1_keepsWithin_25 : decode cX1_keepsWithin 25 = .ok (.iaload, 1) := by decide +kernel
theorem dX1_keepsWithin_26 : decode cX1_keepsWithin 26 = .ok (.ishr, 1) := by decide +kernel
theorem dX1_keepsWithin_27 : decode cX1_keepsWithin 27 = .ok (.iconst 1, 1) := by decide +kernel
theorem dX1_keepsWithin_28 : decode cX1_keepsWithin 28 = .ok (.iand, 1) := by decide +kernel
theorem dX1_keepsWithin_29 : decode cX1_keepsWithin 29 = .ok (.ifCond .ne 5, 3) := by decide +kernel
theorem dX1_keepsWithin_32 : decode cX1_keepsWithin 32 = .ok (.iconst 0, 1) := by decide +kernel
theorem dX1_keepsWithin_33 : decode cX1_keepsWithin 33 = .ok (.ireturn, 1) := by decide +kernel
theorem dX1_keepsWithin_34 : decode cX1_keepsWithin 34 = .ok (.iinc 2 1, 3) := by decide +kernel
theorem dX1_keepsWithin_37 : decode cX1_keepsWithin 37 = .ok (.goto (-35), 3) := by decide +kernel
theorem dX1_keepsWithin_40 : decode cX1_keepsWithin 40 = .ok (.iconst 1, 1) := by decide +kernel
theorem dX1_keepsWithin_41 : decode cX1_keepsWithin 41 = .ok (.ireturn, 1) := by decide +kernel
theorem dX1_isBetterFor_0 : decode cX1_isBetterFor 0 = .ok (.iconst 0, 1) := by decide +kernel
theorem dX1_isBetterFor_1 : decode cX1_isBetterFor 1 = .ok (.istore_n 2, 1) := by decide +kernel
theorem dX1_isBetterFor_2 : decode cX1_isBetterFor 2 = .ok (.iconst 0, 1) := by decide +kernel
theorem dX1_isBetterFor_3 : decode cX1_isBetterFor 3 = .ok (.istore_n 3, 1) := by decide +kernel
theorem dX1_isBetterFor_4 : decode cX1_isBetterFor 4 = .ok (.iload_n 3, 1) := by decide +kernel
theorem dX1_isBetterFor_5 : decode cX1_isBetterFor 5 = .ok (.aload_n 0, 1) := by decide +kernel
theorem dX1_isBetterFor_6 : decode cX1_isBetterFor 6 = .ok (.getfield 9, 3) := by decide +kernel
theorem dX1_isBetterFor_9 : decode cX1_isBetterFor 9 = .ok (.if_icmp .ge 63, 3) := by decide +kernel
theorem dX1_isBetterFor_12 : decode cX1_isBetterFor 12 = .ok (.aload_n 0, 1) := by decide +kernel
theorem dX1_isBetterFor_13 : decode cX1_isBetterFor 13 = .ok (.iload_n 3, 1) := by decide +kernel
theorem dX1_isBetterFor_14 : decode cX1_isBetterFor 14 = .ok (.aload_n 0, 1) := by decide +kernel
theorem dX1_isBetterFor_15 : decode cX1_isBetterFor 15 = .ok (.getfield 43, 3) := by decide +kernel
theorem dX1_isBetterFor_18 : decode cX1_isBetterFor 18 = .ok (.iload_n 3, 1) := by decide +kernel
theorem dX1_isBetterFor_19 : decode cX1_isBetterFor 19 = .ok (.iaload, 1) := by decide +kernel
theorem dX1_isBetterFor_20 : decode cX1_isBetterFor 20 = .ok (.invokevirtual 74, 3) := by decide +kernel
theorem dX1_isBetterFor_23 : decode cX1_isBetterFor 23 = .ok (.aload_n 0, 1) := by decide +kernel
theorem dX1_isBetterFor_24 : decode cX1_isBetterFor 24 = .ok (.iload_n 3, 1) := by decide +kernel
theorem dX1_isBetterFor_25 : decode cX1_isBetterFor 25 = .ok (.aload_n 0, 1) := by decide +kernel
theorem dX1_isBetterFor_26 : decode cX1_isBetterFor 26 = .ok (.getfield 46, 3) := by decide +kernel
theorem dX1_isBetterFor_29 : decode cX1_isBetterFor 29 = .ok (.iload_n 3, 1) := by decide +kernel
theorem dX1_isBetterFor_30 : decode cX1_isBetterFor 30 = .ok (.iaload, 1) := by decide +kernel
theorem dX1_isBetterFor_31 : decode cX1_isBetterFor 31 = .ok (.invokevirtual 74, 3) := by decide +kernel
theorem dX1_isBetterFor_34 : decode cX1_isBetterFor 34 = .ok (.isub, 1) := by decide +kernel
theorem dX1_isBetterFor_35 : decode cX1_isBetterFor 35 = .ok (.istore 4, 2) := by decide +kernel
theorem dX1_isBetterFor_37 : decode cX1_isBetterFor 37 = .ok (.iload_n 1, 1) := by decide +kernel
theorem dX1_isBetterFor_38 : decode cX1_isBetterFor 38 = .ok (.iload_n 3, 1) := by decide +kernel
theorem dX1_isBetterFor_39 : decode cX1_isBetterFor 39 = .ok (.ishr, 1) := by decide +kernel
theorem dX1_isBetterFor_40 : decode cX1_isBetterFor 40 = .ok (.iconst 1, 1) := by decide +kernel
theorem dX1_isBetterFor_41 : decode cX1_isBetterFor 41 = .ok (.iand, 1) := by decide +kernel
theorem dX1_isBetterFor_42 : decode cX1_isBetterFor 42 = .ok (.iconst 1, 1) := by decide +kernel
theorem dX1_isBetterFor_43 : decode cX1_isBetterFor 43 = .ok (.if_icmp .ne 23, 3) := by decide +kernel
theorem dX1_isBetterFor_46 : decode cX1_isBetterFor 46 = .ok (.iload 4, 2) := by decide +kernel
theorem dX1_isBetterFor_48 : decode cX1_isBetterFor 48 = .ok (.ifCond .ge 5, 3) := by decide +kernel
theorem dX1_isBetterFor_51 : decode cX1_isBetterFor 51 = .ok (.iconst 0, 1) := by decide +kernel
theorem dX1_isBetterFor_52 : decode cX1_isBetterFor 52 = .ok (.ireturn, 1) := by decide +kernel
theorem dX1_isBetterFor_53 : decode cX1_isBetterFor 53 = .ok (.iload_n 2, 1) := by decide +kernel
theorem dX1_isBetterFor_54 : decode cX1_isBetterFor 54 = .ok (.iload 4, 2) := by decide +kernel
theorem dX1_isBetterFor_56 : decode cX1_isBetterFor 56 = .ok (.ifCond .le 7, 3) := by decide +kernel
theorem dX1_isBetterFor_59 : decode cX1_isBetterFor 59 = .ok (.iconst 1, 1) := by decide +kernel
theorem dX1_isBetterFor_60 : decode cX1_isBetterFor 60 = .ok (.goto 4, 3) := by decide +kernel
theorem dX1_isBetterFor_63 : decode cX1_isBetterFor 63 = .ok (.iconst 0, 1) := by decide +kernel
theorem dX1_isBetterFor_64 : decode cX1_isBetterFor 64 = .ok (.ior, 1) := by decide +kernel
theorem dX1_isBetterFor_65 : decode cX1_isBetterFor 65 = .ok (.istore_n 2, 1) := by decide +kernel
theorem dX1_isBetterFor_66 : decode cX1_isBetterFor 66 = .ok (.iinc 3 1, 3) := by decide +kernel
theorem dX1_isBetterFor_69 : decode cX1_isBetterFor 69 = .ok (.goto (-65), 3) := by decide +kernel
theorem dX1_isBetterFor_72 : decode cX1_isBetterFor 72 = .ok (.iload_n 2, 1) := by decide +kernel
theorem dX1_isBetterFor_73 : decode cX1_isBetterFor 73 = .ok (.ireturn, 1) := by decide +kernel
theorem dX1_isBettered_0 : decode cX1_isBettered 0 = .ok (.aload_n 0, 1) := by decide +kernel
theorem dX1_isBettered_1 : decode cX1_isBettered 1 = .ok (.iload_n 1, 1) := by decide +kernel
theorem dX1_isBettered_2 : decode cX1_isBettered 2 = .ok (.aload_n 0, 1) := by decide +kernel
theorem dX1_isBettered_3 : decode cX1_isBettered 3 = .ok (.getfield 43, 3) := by decide +kernel
theorem dX1_isBettered_6 : decode cX1_isBettered 6 = .ok (.invokevirtual 49, 3) := by decide +kernel
theorem dX1_isBettered_9 : decode cX1_isBettered 9 = .ok (.aload_n 0, 1) := by decide +kernel
theorem dX1_isBettered_10 : decode cX1_isBettered 10 = .ok (.getfield 25, 3) := by decide +kernel
theorem dX1_isBettered_13 : decode cX1_isBettered 13 = .ok (.astore_n 2, 1) := by decide +kernel
theorem dX1_isBettered_14 : decode cX1_isBettered 14 = .ok (.aload_n 2, 1) := by decide +kernel
theorem dX1_isBettered_15 : decode cX1_isBettered 15 = .ok (.arraylength, 1) := by decide +kernel
theorem dX1_isBettered_16 : decode cX1_isBettered 16 = .ok (.istore_n 3, 1) := by decide +kernel
theorem dX1_isBettered_17 : decode cX1_isBettered 17 = .ok (.iconst 0, 1) := by decide +kernel
theorem dX1_isBettered_18 : decode cX1_isBettered 18 = .ok (.istore 4, 2) := by decide +kernel
theorem dX1_isBettered_20 : decode cX1_isBettered 20 = .ok (.iload 4, 2) := by decide +kernel
theorem dX1_isBettered_22 : decode cX1_isBettered 22 = .ok (.iload_n 3, 1) := by decide +kernel
theorem dX1_isBettered_23 : decode cX1_isBettered 23 = .ok (.if_icmp .ge 42, 3) := by decide +kernel
theorem dX1_isBettered_26 : decode cX1_isBettered 26 = .ok (.aload_n 2, 1) := by decide +kernel
theorem dX1_isBettered_27 : decode cX1_isBettered 27 = .ok (.iload 4, 2) := by decide +kernel
theorem dX1_isBettered_29 : decode cX1_isBettered 29 = .ok (.iaload, 1) := by decide +kernel
theorem dX1_isBettered_30 : decode cX1_isBettered 30 = .ok (.istore 5, 2) := by decide +kernel
theorem dX1_isBettered_32 : decode cX1_isBettered 32 = .ok (.aload_n 0, 1) := by decide +kernel
theorem dX1_isBettered_33 : decode cX1_isBettered 33 = .ok (.iload 5, 2) := by decide +kernel
theorem dX1_isBettered_35 : decode cX1_isBettered 35 = .ok (.aload_n 0, 1) := by decide +kernel
theorem dX1_isBettered_36 : decode cX1_isBettered 36 = .ok (.getfield 46, 3) := by decide +kernel
theorem dX1_isBettered_39 : decode cX1_isBettered 39 = .ok (.invokevirtual 49, 3) := by decide +kernel
theorem dX1_isBettered_42 : decode cX1_isBettered 42 = .ok (.aload_n 0, 1) := by decide +kernel
theorem dX1_isBettered_43 : decode cX1_isBettered 43 = .ok (.iconst 1, 1) := by decide +kernel
theorem dX1_isBettered_44 : decode cX1_isBettered 44 = .ok (.aload_n 0, 1) := by decide +kernel
theorem dX1_isBettered_45 : decode cX1_isBettered 45 = .ok (.getfield 9, 3) := by decide +kernel
theorem dX1_isBettered_48 : decode cX1_isBettered 48 = .ok (.ishl, 1) := by decide +kernel
theorem dX1_isBettered_49 : decode cX1_isBettered 49 = .ok (.iconst 1, 1) := by decide +kernel
theorem dX1_isBettered_50 : decode cX1_isBettered 50 = .ok (.isub, 1) := by decide +kernel
theorem dX1_isBettered_51 : decode cX1_isBettered 51 = .ok (.invokevirtual 71, 3) := by decide +kernel
theorem dX1_isBettered_54 : decode cX1_isBettered 54 = .ok (.ifCond .eq 5, 3) := by decide +kernel
theorem dX1_isBettered_57 : decode cX1_isBettered 57 = .ok (.iconst 1, 1) := by decide +kernel
theorem dX1_isBettered_58 : decode cX1_isBettered 58 = .ok (.ireturn, 1) := by decide +kernel
theorem dX1_isBettered_59 : decode cX1_isBettered 59 = .ok (.iinc 4 1, 3) := by decide +kernel
theorem dX1_isBettered_62 : decode cX1_isBettered 62 = .ok (.goto (-42), 3) := by decide +kernel
theorem dX1_isBettered_65 : decode cX1_isBettered 65 = .ok (.iconst 0, 1) := by decide +kernel
theorem dX1_isBettered_66 : decode cX1_isBettered 66 = .ok (.ireturn, 1) := by decide +kernel
theorem dX1_goodTrades_0 : decode cX1_goodTrades 0 = .ok (.iconst 0, 1) := by decide +kernel
theorem dX1_goodTrades_1 : decode cX1_goodTrades 1 = .ok (.istore_n 1, 1) := by decide +kernel
theorem dX1_goodTrades_2 : decode cX1_goodTrades 2 = .ok (.aload_n 0, 1) := by decide +kernel
theorem dX1_goodTrades_3 : decode cX1_goodTrades 3 = .ok (.getfield 25, 3) := by decide +kernel
theorem dX1_goodTrades_6 : decode cX1_goodTrades 6 = .ok (.astore_n 2, 1) := by decide +kernel
theorem dX1_goodTrades_7 : decode cX1_goodTrades 7 = .ok (.aload_n 2, 1) := by decide +kernel
theorem dX1_goodTrades_8 : decode cX1_goodTrades 8 = .ok (.arraylength, 1) := by decide +kernel
theorem dX1_goodTrades_9 : decode cX1_goodTrades 9 = .ok (.istore_n 3, 1) := by decide +kernel
theorem dX1_goodTrades_10 : decode cX1_goodTrades 10 = .ok (.iconst 0, 1) := by decide +kernel
theorem dX1_goodTrades_11 : decode cX1_goodTrades 11 = .ok (.istore 4, 2) := by decide +kernel
theorem dX1_goodTrades_13 : decode cX1_goodTrades 13 = .ok (.iload 4, 2) := by decide +kernel
theorem dX1_goodTrades_15 : decode cX1_goodTrades 15 = .ok (.iload_n 3, 1) := by decide +kernel
theorem dX1_goodTrades_16 : decode cX1_goodTrades 16 = .ok (.if_icmp .ge 27, 3) := by decide +kernel
theorem dX1_goodTrades_19 : decode cX1_goodTrades 19 = .ok (.aload_n 2, 1) := by decide +kernel
theorem dX1_goodTrades_20 : decode cX1_goodTrades 20 = .ok (.iload 4, 2) := by decide +kernel
theorem dX1_goodTrades_22 : decode cX1_goodTrades 22 = .ok (.iaload, 1) := by decide +kernel
theorem dX1_goodTrades_23 : decode cX1_goodTrades 23 = .ok (.istore 5, 2) := by decide +kernel
theorem dX1_goodTrades_25 : decode cX1_goodTrades 25 = .ok (.aload_n 0, 1) := by decide +kernel
theorem dX1_goodTrades_26 : decode cX1_goodTrades 26 = .ok (.iload 5, 2) := by decide +kernel
theorem dX1_goodTrades_28 : decode cX1_goodTrades 28 = .ok (.invokevirtual 77, 3) := by decide +kernel
theorem dX1_goodTrades_31 : decode cX1_goodTrades 31 = .ok (.ifCond .ne 6, 3) := by decide +kernel
theorem dX1_goodTrades_34 : decode cX1_goodTrades 34 = .ok (.iinc 1 1, 3) := by decide +kernel
theorem dX1_goodTrades_37 : decode cX1_goodTrades 37 = .ok (.iinc 4 1, 3) := by decide +kernel
theorem dX1_goodTrades_40 : decode cX1_goodTrades 40 = .ok (.goto (-27), 3) := by decide +kernel
theorem dX1_goodTrades_43 : decode cX1_goodTrades 43 = .ok (.iload_n 1, 1) := by decide +kernel
theorem dX1_goodTrades_44 : decode cX1_goodTrades 44 = .ok (.ireturn, 1) := by decide +kernel
theorem dX1_coreTrades_0 : decode cX1_coreTrades 0 = .ok (.iconst 0, 1) := by decide +kernel
theorem dX1_coreTrades_1 : decode cX1_coreTrades 1 = .ok (.istore_n 1, 1) := by decide +kernel
theorem dX1_coreTrades_2 : decode cX1_coreTrades 2 = .ok (.aload_n 0, 1) := by decide +kernel
theorem dX1_coreTrades_3 : decode cX1_coreTrades 3 = .ok (.getfield 25, 3) := by decide +kernel
theorem dX1_coreTrades_6 : decode cX1_coreTrades 6 = .ok (.astore_n 2, 1) := by decide +kernel
theorem dX1_coreTrades_7 : decode cX1_coreTrades 7 = .ok (.aload_n 2, 1) := by decide +kernel
theorem dX1_coreTrades_8 : decode cX1_coreTrades 8 = .ok (.arraylength, 1) := by decide +kernel
theorem dX1_coreTrades_9 : decode cX1_coreTrades 9 = .ok (.istore_n 3, 1) := by decide +kernel
theorem dX1_coreTrades_10 : decode cX1_coreTrades 10 = .ok (.iconst 0, 1) := by decide +kernel
theorem dX1_coreTrades_11 : decode cX1_coreTrades 11 = .ok (.istore 4, 2) := by decide +kernel
theorem dX1_coreTrades_13 : decode cX1_coreTrades 13 = .ok (.iload 4, 2) := by decide +kernel
theorem dX1_coreTrades_15 : decode cX1_coreTrades 15 = .ok (.iload_n 3, 1) := by decide +kernel
theorem dX1_coreTrades_16 : decode cX1_coreTrades 16 = .ok (.if_icmp .ge 27, 3) := by decide +kernel
theorem dX1_coreTrades_19 : decode cX1_coreTrades 19 = .ok (.aload_n 2, 1) := by decide +kernel
theorem dX1_coreTrades_20 : decode cX1_coreTrades 20 = .ok (.iload 4, 2) := by decide +kernel
theorem dX1_coreTrades_22 : decode cX1_coreTrades 22 = .ok (.iaload, 1) := by decide +kernel
theorem dX1_coreTrades_23 : decode cX1_coreTrades 23 = .ok (.istore 5, 2) := by decide +kernel
theorem dX1_coreTrades_25 : decode cX1_coreTrades 25 = .ok (.aload_n 0, 1) := by decide +kernel
theorem dX1_coreTrades_26 : decode cX1_coreTrades 26 = .ok (.iload 5, 2) := by decide +kernel
theorem dX1_coreTrades_28 : decode cX1_coreTrades 28 = .ok (.invokevirtual 80, 3) := by decide +kernel
theorem dX1_coreTrades_31 : decode cX1_coreTrades 31 = .ok (.ifCond .ne 6, 3) := by decide +kernel
theorem dX1_coreTrades_34 : decode cX1_coreTrades 34 = .ok (.iinc 1 1, 3) := by decide +kernel
theorem dX1_coreTrades_37 : decode cX1_coreTrades 37 = .ok (.iinc 4 1, 3) := by decide +kernel
theorem dX1_coreTrades_40 : decode cX1_coreTrades 40 = .ok (.goto (-27), 3) := by decide +kernel
theorem dX1_coreTrades_43 : decode cX1_coreTrades 43 = .ok (.iload_n 1, 1) := by decide +kernel
theorem dX1_coreTrades_44 : decode cX1_coreTrades 44 = .ok (.ireturn, 1) := by decide +kernel
theorem dX1_leastLie_0 : decode cX1_leastLie 0 = .ok (.aload_n 0, 1) := by decide +kernel
theorem dX1_leastLie_1 : decode cX1_leastLie 1 = .ok (.iload_n 1, 1) := by decide +kernel
theorem dX1_leastLie_2 : decode cX1_leastLie 2 = .ok (.invokevirtual 84, 3) := by decide +kernel
theorem dX1_leastLie_5 : decode cX1_leastLie 5 = .ok (.istore_n 2, 1) := by decide +kernel
theorem dX1_leastLie_6 : decode cX1_leastLie 6 = .ok (.aload_n 0, 1) := by decide +kernel
theorem dX1_leastLie_7 : decode cX1_leastLie 7 = .ok (.invokevirtual 87, 3) := by decide +kernel
theorem dX1_leastLie_10 : decode cX1_leastLie 10 = .ok (.pop, 1) := by decide +kernel
theorem dX1_leastLie_11 : decode cX1_leastLie 11 = .ok (.aload_n 0, 1) := by decide +kernel
theorem dX1_leastLie_12 : decode cX1_leastLie 12 = .ok (.iload_n 1, 1) := by decide +kernel
theorem dX1_leastLie_13 : decode cX1_leastLie 13 = .ok (.aload_n 0, 1) := by decide +kernel
theorem dX1_leastLie_14 : decode cX1_leastLie 14 = .ok (.getfield 37, 3) := by decide +kernel
theorem dX1_leastLie_17 : decode cX1_leastLie 17 = .ok (.iload_n 1, 1) := by decide +kernel
theorem dX1_leastLie_18 : decode cX1_leastLie 18 = .ok (.iaload, 1) := by decide +kernel
theorem dX1_leastLie_19 : decode cX1_leastLie 19 = .ok (.invokevirtual 74, 3) := by decide +kernel
theorem dX1_leastLie_22 : decode cX1_leastLie 22 = .ok (.istore_n 3, 1) := by decide +kernel
theorem dX1_leastLie_23 : decode cX1_leastLie 23 = .ok (.bipush (-2), 2) := by decide +kernel
theorem dX1_leastLie_25 : decode cX1_leastLie 25 = .ok (.istore 4, 2) := by decide +kernel
theorem dX1_leastLie_27 : decode cX1_leastLie 27 = .ok (.iconst 0, 1) := by decide +kernel
theorem dX1_leastLie_28 : decode cX1_leastLie 28 = .ok (.istore 5, 2) := by decide +kernel
theorem dX1_leastLie_30 : decode cX1_leastLie 30 = .ok (.iload 5, 2) := by decide +kernel
theorem dX1_leastLie_32 : decode cX1_leastLie 32 = .ok (.aload_n 0, 1) := by decide +kernel
theorem dX1_leastLie_33 : decode cX1_leastLie 33 = .ok (.getfield 25, 3) := by decide +kernel
theorem dX1_leastLie_36 : decode cX1_leastLie 36 = .ok (.arraylength, 1) := by decide +kernel
theorem dX1_leastLie_37 : decode cX1_leastLie 37 = .ok (.if_icmp .ge 56, 3) := by decide +kernel
theorem dX1_leastLie_40 : decode cX1_leastLie 40 = .ok (.iload 4, 2) := by decide +kernel
theorem dX1_leastLie_42 : decode cX1_leastLie 42 = .ok (.bipush (-2), 2) := by decide +kernel
theorem dX1_leastLie_44 : decode cX1_leastLie 44 = .ok (.if_icmp .ne 49, 3) := by decide +kernel
theorem dX1_leastLie_47 : decode cX1_leastLie 47 = .ok (.aload_n 0, 1) := by decide +kernel
theorem dX1_leastLie_48 : decode cX1_leastLie 48 = .ok (.iload_n 1, 1) := by decide +kernel
theorem dX1_leastLie_49 : decode cX1_leastLie 49 = .ok (.aload_n 0, 1) := by decide +kernel
theorem dX1_leastLie_50 : decode cX1_leastLie 50 = .ok (.getfield 25, 3) := by decide +kernel
theorem dX1_leastLie_53 : decode cX1_leastLie 53 = .ok (.iload 5, 2) := by decide +kernel
theorem dX1_leastLie_55 : decode cX1_leastLie 55 = .ok (.iaload, 1) := by decide +kernel
theorem dX1_leastLie_56 : decode cX1_leastLie 56 = .ok (.invokevirtual 91, 3) := by decide +kernel
theorem dX1_leastLie_59 : decode cX1_leastLie 59 = .ok (.istore 6, 2) := by decide +kernel
theorem dX1_leastLie_61 : decode cX1_leastLie 61 = .ok (.aload_n 0, 1) := by decide +kernel
theorem dX1_leastLie_62 : decode cX1_leastLie 62 = .ok (.iload_n 1, 1) := by decide +kernel
theorem dX1_leastLie_63 : decode cX1_leastLie 63 = .ok (.iload_n 2, 1) := by decide +kernel
theorem dX1_leastLie_64 : decode cX1_leastLie 64 = .ok (.invokevirtual 94, 3) := by decide +kernel
theorem dX1_leastLie_67 : decode cX1_leastLie 67 = .ok (.aload_n 0, 1) := by decide +kernel
theorem dX1_leastLie_68 : decode cX1_leastLie 68 = .ok (.iload_n 1, 1) := by decide +kernel
theorem dX1_leastLie_69 : decode cX1_leastLie 69 = .ok (.iload 6, 2) := by decide +kernel
theorem dX1_leastLie_71 : decode cX1_leastLie 71 = .ok (.invokevirtual 74, 3) := by decide +kernel
theorem dX1_leastLie_74 : decode cX1_leastLie 74 = .ok (.iload_n 3, 1) := by decide +kernel
theorem dX1_leastLie_75 : decode cX1_leastLie 75 = .ok (.if_icmp .ge 12, 3) := by decide +kernel
theorem dX1_leastLie_78 : decode cX1_leastLie 78 = .ok (.aload_n 0, 1) := by decide +kernel
theorem dX1_leastLie_79 : decode cX1_leastLie 79 = .ok (.getfield 25, 3) := by decide +kernel
theorem dX1_leastLie_82 : decode cX1_leastLie 82 = .ok (.iload 5, 2) := by decide +kernel
theorem dX1_leastLie_84 : decode cX1_leastLie 84 = .ok (.iaload, 1) := by decide +kernel
theorem dX1_leastLie_85 : decode cX1_leastLie 85 = .ok (.istore 4, 2) := by decide +kernel
theorem dX1_leastLie_87 : decode cX1_leastLie 87 = .ok (.iinc 5 1, 3) := by decide +kernel
theorem dX1_leastLie_90 : decode cX1_leastLie 90 = .ok (.goto (-60), 3) := by decide +kernel
theorem dX1_leastLie_93 : decode cX1_leastLie 93 = .ok (.iload 4, 2) := by decide +kernel
theorem dX1_leastLie_95 : decode cX1_leastLie 95 = .ok (.ireturn, 1) := by decide +kernel
theorem dX1_thingBySaying_0 : decode cX1_thingBySaying 0 = .ok (.aload_n 0, 1) := by decide +kernel
theorem dX1_thingBySaying_1 : decode cX1_thingBySaying 1 = .ok (.iload_n 1, 1) := by decide +kernel
theorem dX1_thingBySaying_2 : decode cX1_thingBySaying 2 = .ok (.iload_n 2, 1) := by decide +kernel
theorem dX1_thingBySaying_3 : decode cX1_thingBySaying 3 = .ok (.invokevirtual 94, 3) := by decide +kernel
theorem dX1_thingBySaying_6 : decode cX1_thingBySaying 6 = .ok (.aload_n 0, 1) := by decide +kernel
theorem dX1_thingBySaying_7 : decode cX1_thingBySaying 7 = .ok (.invokevirtual 87, 3) := by decide +kernel
theorem dX1_thingBySaying_10 : decode cX1_thingBySaying 10 = .ok (.pop, 1) := by decide +kernel
theorem dX1_thingBySaying_11 : decode cX1_thingBySaying 11 = .ok (.aload_n 0, 1) := by decide +kernel
theorem dX1_thingBySaying_12 : decode cX1_thingBySaying 12 = .ok (.getfield 37, 3) := by decide +kernel
theorem dX1_thingBySaying_15 : decode cX1_thingBySaying 15 = .ok (.iload_n 1, 1) := by decide +kernel
theorem dX1_thingBySaying_16 : decode cX1_thingBySaying 16 = .ok (.iaload, 1) := by decide +kernel
theorem dX1_thingBySaying_17 : decode cX1_thingBySaying 17 = .ok (.ireturn, 1) := by decide +kernel
theorem dX2_init_0 : decode cX2_init 0 = .ok (.aload_n 0, 1) := by decide +kernel
theorem dX2_init_1 : decode cX2_init 1 = .ok (.iload_n 1, 1) := by decide +kernel
theorem dX2_init_2 : decode cX2_init 2 = .ok (.aload_n 2, 1) := by decide +kernel
theorem dX2_init_3 : decode cX2_init 3 = .ok (.invokespecial 3, 3) := by decide +kernel
theorem dX2_init_6 : decode cX2_init 6 = .ok (.aload_n 0, 1) := by decide +kernel
theorem dX2_init_7 : decode cX2_init 7 = .ok (.iconst 3, 1) := by decide +kernel
theorem dX2_init_8 : decode cX2_init 8 = .ok (.newarray .int, 2) := by decide +kernel
theorem dX2_init_10 : decode cX2_init 10 = .ok (.putfield 9, 3) := by decide +kernel
theorem dX2_init_13 : decode cX2_init 13 = .ok (.aload_n 0, 1) := by decide +kernel
theorem dX2_init_14 : decode cX2_init 14 = .ok (.iconst 5, 1) := by decide +kernel
theorem dX2_init_15 : decode cX2_init 15 = .ok (.newarray .int, 2) := by decide +kernel
theorem dX2_init_17 : decode cX2_init 17 = .ok (.putfield 15, 3) := by decide +kernel
theorem dX2_init_20 : decode cX2_init 20 = .ok (.aload_n 0, 1) := by decide +kernel
theorem dX2_init_21 : decode cX2_init 21 = .ok (.getfield 18, 3) := by decide +kernel
theorem dX2_init_24 : decode cX2_init 24 = .ok (.iconst (-1), 1) := by decide +kernel
theorem dX2_init_25 : decode cX2_init 25 = .ok (.invokestatic 21, 3) := by decide +kernel
theorem dX2_init_28 : decode cX2_init 28 = .ok (.return_, 1) := by decide +kernel
theorem dX2_settle_0 : decode cX2_settle 0 = .ok (.aload_n 0, 1) := by decide +kernel
theorem dX2_settle_1 : decode cX2_settle 1 = .ok (.getfield 18, 3) := by decide +kernel
theorem dX2_settle_4 : decode cX2_settle 4 = .ok (.iload_n 1, 1) := by decide +kernel
theorem dX2_settle_5 : decode cX2_settle 5 = .ok (.iaload, 1) := by decide +kernel
theorem dX2_settle_6 : decode cX2_settle 6 = .ok (.iconst (-1), 1) := by decide +kernel
theorem dX2_settle_7 : decode cX2_settle 7 = .ok (.if_icmp .ne 14, 3) := by decide +kernel
theorem dX2_settle_10 : decode cX2_settle 10 = .ok (.aload_n 0, 1) := by decide +kernel
theorem dX2_settle_11 : decode cX2_settle 11 = .ok (.getfield 18, 3) := by decide +kernel
theorem dX2_settle_14 : decode cX2_settle 14 = .ok (.iload_n 1, 1) := by decide +kernel
theorem dX2_settle_15 : decode cX2_settle 15 = .ok (.aload_n 0, 1) := by decide +kernel
theorem dX2_settle_16 : decode cX2_settle 16 = .ok (.iload_n 1, 1) := by decide +kernel
theorem dX2_settle_17 : decode cX2_settle 17 = .ok (.invokevirtual 27, 3) := by decide +kernel
theorem dX2_settle_20 : decode cX2_settle 20 = .ok (.iastore, 1) := by decide +kernel
theorem dX2_settle_21 : decode cX2_settle 21 = .ok (.return_, 1) := by decide +kernel
theorem dX2_changeEnd_0 : decode cX2_changeEnd 0 = .ok (.bipush (-4), 2) := by decide +kernel
theorem dX2_changeEnd_2 : decode cX2_changeEnd 2 = .ok (.ireturn, 1) := by decide +kernel
theorem dX2_changePlace_0 : decode cX2_changePlace 0 = .ok (.aload_n 0, 1) := by decide +kernel
theorem dX2_changePlace_1 : decode cX2_changePlace 1 = .ok (.getfield 9, 3) := by decide +kernel
theorem dX2_changePlace_4 : decode cX2_changePlace 4 = .ok (.iload_n 1, 1) := by decide +kernel
theorem dX2_changePlace_5 : decode cX2_changePlace 5 = .ok (.iaload, 1) := by decide +kernel
theorem dX2_changePlace_6 : decode cX2_changePlace 6 = .ok (.istore_n 3, 1) := by decide +kernel
theorem dX2_changePlace_7 : decode cX2_changePlace 7 = .ok (.aload_n 0, 1) := by decide +kernel
theorem dX2_changePlace_8 : decode cX2_changePlace 8 = .ok (.getfield 9, 3) := by decide +kernel
theorem dX2_changePlace_11 : decode cX2_changePlace 11 = .ok (.iload_n 1, 1) := by decide +kernel
theorem dX2_changePlace_12 : decode cX2_changePlace 12 = .ok (.iload_n 2, 1) := by decide +kernel
theorem dX2_changePlace_13 : decode cX2_changePlace 13 = .ok (.iastore, 1) := by decide +kernel
theorem dX2_changePlace_14 : decode cX2_changePlace 14 = .ok (.aload_n 0, 1) := by decide +kernel
theorem dX2_changePlace_15 : decode cX2_changePlace 15 = .ok (.getfield 18, 3) := by decide +kernel
theorem dX2_changePlace_18 : decode cX2_changePlace 18 = .ok (.iconst (-1), 1) := by decide +kernel
theorem dX2_changePlace_19 : decode cX2_changePlace 19 = .ok (.invokestatic 21, 3) := by decide +kernel
theorem dX2_changePlace_22 : decode cX2_changePlace 22 = .ok (.iload_n 3, 1) := by decide +kernel
theorem dX2_changePlace_23 : decode cX2_changePlace 23 = .ok (.ireturn, 1) := by decide +kernel
theorem dX2_middleOf_0 : decode cX2_middleOf 0 = .ok (.aload_n 0, 1) := by decide +kernel
theorem dX2_middleOf_1 : decode cX2_middleOf 1 = .ok (.getfield 15, 3) := by decide +kernel
theorem dX2_middleOf_4 : decode cX2_middleOf 4 = .ok (.iconst 0, 1) := by decide +kernel
theorem dX2_middleOf_5 : decode cX2_middleOf 5 = .ok (.invokestatic 21, 3) := by decide +kernel
theorem dX2_middleOf_8 : decode cX2_middleOf 8 = .ok (.iconst 0, 1) := by decide +kernel
theorem dX2_middleOf_9 : decode cX2_middleOf 9 = .ok (.istore_n 2, 1) := by decide +kernel
theorem dX2_middleOf_10 : decode cX2_middleOf 10 = .ok (.iload_n 2, 1) := by decide +kernel
theorem dX2_middleOf_11 : decode cX2_middleOf 11 = .ok (.aload_n 0, 1) := by decide +kernel
theorem dX2_middleOf_12 : decode cX2_middleOf 12 = .ok (.getfield 31, 3) := by decide +kernel
theorem dX2_middleOf_15 : decode cX2_middleOf 15 = .ok (.getfield 35, 3) := by decide +kernel
theorem dX2_middleOf_18 : decode cX2_middleOf 18 = .ok (.if_icmp .ge 34, 3) := by decide +kernel
theorem dX2_middleOf_21 : decode cX2_middleOf 21 = .ok (.aload_n 0, 1) := by decide +kernel
theorem dX2_middleOf_22 : decode cX2_middleOf 22 = .ok (.getfield 15, 3) := by decide +kernel
theorem dX2_middleOf_25 : decode cX2_middleOf 25 = .ok (.aload_n 0, 1) := by decide +kernel
theorem dX2_middleOf_26 : decode cX2_middleOf 26 = .ok (.getfield 31, 3) := by decide +kernel
theorem dX2_middleOf_29 : decode cX2_middleOf 29 = .ok (.aload_n 0, 1) := by decide +kernel
theorem dX2_middleOf_30 : decode cX2_middleOf 30 = .ok (.getfield 31, 3) := by decide +kernel
theorem dX2_middleOf_33 : decode cX2_middleOf 33 = .ok (.iload_n 1, 1) := by decide +kernel
theorem dX2_middleOf_34 : decode cX2_middleOf 34 = .ok (.iload_n 2, 1) := by decide +kernel
theorem dX2_middleOf_35 : decode cX2_middleOf 35 = .ok (.invokevirtual 41, 3) := by decide +kernel
theorem dX2_middleOf_38 : decode cX2_middleOf 38 = .ok (.invokevirtual 45, 3) := by decide +kernel
theorem dX2_middleOf_41 : decode cX2_middleOf 41 = .ok (.dup2, 1) := by decide +kernel
theorem dX2_middleOf_42 : decode cX2_middleOf 42 = .ok (.iaload, 1) := by decide +kernel
theorem dX2_middleOf_43 : decode cX2_middleOf 43 = .ok (.iconst 1, 1) := by decide +kernel
theorem dX2_middleOf_44 : decode cX2_middleOf 44 = .ok (.iadd, 1) := by decide +kernel
theorem dX2_middleOf_45 : decode cX2_middleOf 45 = .ok (.iastore, 1) := by decide +kernel
theorem dX2_middleOf_46 : decode cX2_middleOf 46 = .ok (.iinc 2 1, 3) := by decide +kernel
theorem dX2_middleOf_49 : decode cX2_middleOf 49 = .ok (.goto (-39), 3) := by decide +kernel
theorem dX2_middleOf_52 : decode cX2_middleOf 52 = .ok (.iconst 0, 1) := by decide +kernel
theorem dX2_middleOf_53 : decode cX2_middleOf 53 = .ok (.istore_n 2, 1) := by decide +kernel
theorem dX2_middleOf_54 : decode cX2_middleOf 54 = .ok (.iload_n 2, 1) := by decide +kernel
theorem dX2_middleOf_55 : decode cX2_middleOf 55 = .ok (.iconst 1, 1) := by decide +kernel
theorem dX2_middleOf_56 : decode cX2_middleOf 56 = .ok (.iadd, 1) := by decide +kernel
theorem dX2_middleOf_57 : decode cX2_middleOf 57 = .ok (.aload_n 0, 1) := by decide +kernel
theorem dX2_middleOf_58 : decode cX2_middleOf 58 = .ok (.getfield 31, 3) := by decide +kernel
theorem dX2_middleOf_61 : decode cX2_middleOf 61 = .ok (.getfield 35, 3) := by decide +kernel
theorem dX2_middleOf_64 : decode cX2_middleOf 64 = .ok (.if_icmp .ge 24, 3) := by decide +kernel
theorem dX2_middleOf_67 : decode cX2_middleOf 67 = .ok (.aload_n 0, 1) := by decide +kernel
theorem dX2_middleOf_68 : decode cX2_middleOf 68 = .ok (.getfield 15, 3) := by decide +kernel
theorem dX2_middleOf_71 : decode cX2_middleOf 71 = .ok (.aload_n 0, 1) := by decide +kernel
theorem dX2_middleOf_72 : decode cX2_middleOf 72 = .ok (.getfield 9, 3) := by decide +kernel
theorem dX2_middleOf_75 : decode cX2_middleOf 75 = .ok (.iload_n 2, 1) := by decide +kernel
theorem dX2_middleOf_76 : decode cX2_middleOf 76 = .ok (.iaload, 1) := by decide +kernel
theorem dX2_middleOf_77 : decode cX2_middleOf 77 = .ok (.dup2, 1) := by decide +kernel
theorem dX2_middleOf_78 : decode cX2_middleOf 78 = .ok (.iaload, 1) := by decide +kernel
theorem dX2_middleOf_79 : decode cX2_middleOf 79 = .ok (.iconst 1, 1) := by decide +kernel
theorem dX2_middleOf_80 : decode cX2_middleOf 80 = .ok (.iadd, 1) := by decide +kernel
theorem dX2_middleOf_81 : decode cX2_middleOf 81 = .ok (.iastore, 1) := by decide +kernel
theorem dX2_middleOf_82 : decode cX2_middleOf 82 = .ok (.iinc 2 1, 3) := by decide +kernel
theorem dX2_middleOf_85 : decode cX2_middleOf 85 = .ok (.goto (-31), 3) := by decide +kernel
theorem dX2_middleOf_88 : decode cX2_middleOf 88 = .ok (.iconst 0, 1) := by decide +kernel
theorem dX2_middleOf_89 : decode cX2_middleOf 89 = .ok (.istore_n 2, 1) := by decide +kernel
theorem dX2_middleOf_90 : decode cX2_middleOf 90 = .ok (.iconst 0, 1) := by decide +kernel
theorem dX2_middleOf_91 : decode cX2_middleOf 91 = .ok (.istore_n 3, 1) := by decide +kernel
theorem dX2_middleOf_92 : decode cX2_middleOf 92 = .ok (.iload_n 3, 1) := by decide +kernel
theorem dX2_middleOf_93 : decode cX2_middleOf 93 = .ok (.aload_n 0, 1) := by decide +kernel
theorem dX2_middleOf_94 : decode cX2_middleOf 94 = .ok (.getfield 31, 3) := by decide +kernel
theorem dX2_middleOf_97 : decode cX2_middleOf 97 = .ok (.getfield 48, 3) := by decide +kernel
theorem dX2_middleOf_100 : decode cX2_middleOf 100 = .ok (.if_icmp .ge 31, 3) := by decide +kernel
theorem dX2_middleOf_103 : decode cX2_middleOf 103 = .ok (.iload_n 2, 1) := by decide +kernel
theorem dX2_middleOf_104 : decode cX2_middleOf 104 = .ok (.aload_n 0, 1) := by decide +kernel
theorem dX2_middleOf_105 : decode cX2_middleOf 105 = .ok (.getfield 15, 3) := by decide +kernel
theorem dX2_middleOf_108 : decode cX2_middleOf 108 = .ok (.iload_n 3, 1) := by decide +kernel
theorem dX2_middleOf_109 : decode cX2_middleOf 109 = .ok (.iaload, 1) := by decide +kernel
theorem dX2_middleOf_110 : decode cX2_middleOf 110 = .ok (.iadd, 1) := by decide +kernel
theorem dX2_middleOf_111 : decode cX2_middleOf 111 = .ok (.istore_n 2, 1) := by decide +kernel
theorem dX2_middleOf_112 : decode cX2_middleOf 112 = .ok (.iload_n 2, 1) := by decide +kernel
theorem dX2_middleOf_113 : decode cX2_middleOf 113 = .ok (.aload_n 0, 1) := by decide +kernel
theorem dX2_middleOf_114 : decode cX2_middleOf 114 = .ok (.getfield 31, 3) := by decide +kernel
theorem dX2_middleOf_117 : decode cX2_middleOf 117 = .ok (.getfield 35, 3) := by decide +kernel
theorem dX2_middleOf_120 : decode cX2_middleOf 120 = .ok (.if_icmp .lt 5, 3) := by decide +kernel
theorem dX2_middleOf_123 : decode cX2_middleOf 123 = .ok (.iload_n 3, 1) := by decide +kernel
theorem dX2_middleOf_124 : decode cX2_middleOf 124 = .ok (.ireturn, 1) := by decide +kernel
theorem dX2_middleOf_125 : decode cX2_middleOf 125 = .ok (.iinc 3 1, 3) := by decide +kernel
theorem dX2_middleOf_128 : decode cX2_middleOf 128 = .ok (.goto (-36), 3) := by decide +kernel
theorem dX2_middleOf_131 : decode cX2_middleOf 131 = .ok (.aload_n 0, 1) := by decide +kernel
theorem dX2_middleOf_132 : decode cX2_middleOf 132 = .ok (.getfield 31, 3) := by decide +kernel
theorem dX2_middleOf_135 : decode cX2_middleOf 135 = .ok (.getfield 48, 3) := by decide +kernel
theorem dX2_middleOf_138 : decode cX2_middleOf 138 = .ok (.iconst 1, 1) := by decide +kernel
theorem dX2_middleOf_139 : decode cX2_middleOf 139 = .ok (.isub, 1) := by decide +kernel
theorem dX2_middleOf_140 : decode cX2_middleOf 140 = .ok (.ireturn, 1) := by decide +kernel
theorem dX2_heft_0 : decode cX2_heft 0 = .ok (.aload_n 0, 1) := by decide +kernel
theorem dX2_heft_1 : decode cX2_heft 1 = .ok (.invokespecial 51, 3) := by decide +kernel
theorem dX2_heft_4 : decode cX2_heft 4 = .ok (.sipush 500, 3) := by decide +kernel
theorem dX2_heft_7 : decode cX2_heft 7 = .ok (.iadd, 1) := by decide +kernel
theorem dX2_heft_8 : decode cX2_heft 8 = .ok (.istore_n 1, 1) := by decide +kernel
theorem dX2_heft_9 : decode cX2_heft 9 = .ok (.iconst 0, 1) := by decide +kernel
theorem dX2_heft_10 : decode cX2_heft 10 = .ok (.istore_n 2, 1) := by decide +kernel
theorem dX2_heft_11 : decode cX2_heft 11 = .ok (.iload_n 2, 1) := by decide +kernel
theorem dX2_heft_12 : decode cX2_heft 12 = .ok (.iconst 1, 1) := by decide +kernel
theorem dX2_heft_13 : decode cX2_heft 13 = .ok (.iadd, 1) := by decide +kernel
theorem dX2_heft_14 : decode cX2_heft 14 = .ok (.aload_n 0, 1) := by decide +kernel
theorem dX2_heft_15 : decode cX2_heft 15 = .ok (.getfield 31, 3) := by decide +kernel
theorem dX2_heft_18 : decode cX2_heft 18 = .ok (.getfield 35, 3) := by decide +kernel
theorem dX2_heft_21 : decode cX2_heft 21 = .ok (.if_icmp .ge 18, 3) := by decide +kernel
theorem dX2_heft_24 : decode cX2_heft 24 = .ok (.iload_n 1, 1) := by decide +kernel
theorem dX2_heft_25 : decode cX2_heft 25 = .ok (.aload_n 0, 1) := by decide +kernel
theorem dX2_heft_26 : decode cX2_heft 26 = .ok (.getfield 9, 3) := by decide +kernel
theorem dX2_heft_29 : decode cX2_heft 29 = .ok (.iload_n 2, 1) := by decide +kernel
theorem dX2_heft_30 : decode cX2_heft 30 = .ok (.iaload, 1) := by decide +kernel
theorem dX2_heft_31 : decode cX2_heft 31 = .ok (.iadd, 1) := by decide +kernel
theorem dX2_heft_32 : decode cX2_heft 32 = .ok (.istore_n 1, 1) := by decide +kernel
theorem dX2_heft_33 : decode cX2_heft 33 = .ok (.iinc 2 1, 3) := by decide +kernel
theorem dX2_heft_36 : decode cX2_heft 36 = .ok (.goto (-25), 3) := by decide +kernel
theorem dX2_heft_39 : decode cX2_heft 39 = .ok (.iload_n 1, 1) := by decide +kernel
theorem dX2_heft_40 : decode cX2_heft 40 = .ok (.ireturn, 1) := by decide +kernel
theorem dX2_fail_0 : decode cX2_fail 0 = .ok (.new 55, 3) := by decide +kernel
theorem dX2_fail_3 : decode cX2_fail 3 = .ok (.dup, 1) := by decide +kernel
theorem dX2_fail_4 : decode cX2_fail 4 = .ok (.ldc 57, 2) := by decide +kernel
theorem dX2_fail_6 : decode cX2_fail 6 = .ok (.invokespecial 59, 3) := by decide +kernel
theorem dX2_fail_9 : decode cX2_fail 9 = .ok (.athrow, 1) := by decide +kernel
theorem dX3_init_0 : decode cX3_init 0 = .ok (.aload_n 0, 1) := by decide +kernel
theorem dX3_init_1 : decode cX3_init 1 = .ok (.iload_n 1, 1) := by decide +kernel
theorem dX3_init_2 : decode cX3_init 2 = .ok (.aload_n 2, 1) := by decide +kernel
theorem dX3_init_3 : decode cX3_init 3 = .ok (.invokespecial 1, 3) := by decide +kernel
theorem dX3_init_6 : decode cX3_init 6 = .ok (.aload_n 0, 1) := by decide +kernel
theorem dX3_init_7 : decode cX3_init 7 = .ok (.aload_n 2, 1) := by decide +kernel
theorem dX3_init_8 : decode cX3_init 8 = .ok (.getfield 7, 3) := by decide +kernel
theorem dX3_init_11 : decode cX3_init 11 = .ok (.aload_n 2, 1) := by decide +kernel
theorem dX3_init_12 : decode cX3_init 12 = .ok (.getfield 13, 3) := by decide +kernel
theorem dX3_init_15 : decode cX3_init 15 = .ok (.imul, 1) := by decide +kernel
theorem dX3_init_16 : decode cX3_init 16 = .ok (.newarray .int, 2) := by decide +kernel
theorem dX3_init_18 : decode cX3_init 18 = .ok (.putfield 16, 3) := by decide +kernel
theorem dX3_init_21 : decode cX3_init 21 = .ok (.return_, 1) := by decide +kernel
theorem dX3_paymentAt_0 : decode cX3_paymentAt 0 = .ok (.aload_n 0, 1) := by decide +kernel
theorem dX3_paymentAt_1 : decode cX3_paymentAt 1 = .ok (.getfield 16, 3) := by decide +kernel
theorem dX3_paymentAt_4 : decode cX3_paymentAt 4 = .ok (.iload_n 1, 1) := by decide +kernel
theorem dX3_paymentAt_5 : decode cX3_paymentAt 5 = .ok (.aload_n 0, 1) := by decide +kernel
theorem dX3_paymentAt_6 : decode cX3_paymentAt 6 = .ok (.getfield 22, 3) := by decide +kernel
theorem dX3_paymentAt_9 : decode cX3_paymentAt 9 = .ok (.getfield 13, 3) := by decide +kernel
theorem dX3_paymentAt_12 : decode cX3_paymentAt 12 = .ok (.imul, 1) := by decide +kernel
theorem dX3_paymentAt_13 : decode cX3_paymentAt 13 = .ok (.iload_n 2, 1) := by decide +kernel
theorem dX3_paymentAt_14 : decode cX3_paymentAt 14 = .ok (.iadd, 1) := by decide +kernel
theorem dX3_paymentAt_15 : decode cX3_paymentAt 15 = .ok (.iaload, 1) := by decide +kernel
theorem dX3_paymentAt_16 : decode cX3_paymentAt 16 = .ok (.ireturn, 1) := by decide +kernel
theorem dX3_changePayment_0 : decode cX3_changePayment 0 = .ok (.iload_n 1, 1) := by decide +kernel
theorem dX3_changePayment_1 : decode cX3_changePayment 1 = .ok (.aload_n 0, 1) := by decide +kernel
theorem dX3_changePayment_2 : decode cX3_changePayment 2 = .ok (.getfield 22, 3) := by decide +kernel
theorem dX3_changePayment_5 : decode cX3_changePayment 5 = .ok (.getfield 13, 3) := by decide +kernel
theorem dX3_changePayment_8 : decode cX3_changePayment 8 = .ok (.imul, 1) := by decide +kernel
theorem dX3_changePayment_9 : decode cX3_changePayment 9 = .ok (.iload_n 2, 1) := by decide +kernel
theorem dX3_changePayment_10 : decode cX3_changePayment 10 = .ok (.iadd, 1) := by decide +kernel
theorem dX3_changePayment_11 : decode cX3_changePayment 11 = .ok (.istore 4, 2) := by decide +kernel
theorem dX3_changePayment_13 : decode cX3_changePayment 13 = .ok (.aload_n 0, 1) := by decide +kernel
theorem dX3_changePayment_14 : decode cX3_changePayment 14 = .ok (.getfield 16, 3) := by decide +kernel
theorem dX3_changePayment_17 : decode cX3_changePayment 17 = .ok (.iload 4, 2) := by decide +kernel
theorem dX3_changePayment_19 : decode cX3_changePayment 19 = .ok (.iaload, 1) := by decide +kernel
theorem dX3_changePayment_20 : decode cX3_changePayment 20 = .ok (.istore 5, 2) := by decide +kernel
theorem dX3_changePayment_22 : decode cX3_changePayment 22 = .ok (.aload_n 0, 1) := by decide +kernel
theorem dX3_changePayment_23 : decode cX3_changePayment 23 = .ok (.getfield 16, 3) := by decide +kernel
theorem dX3_changePayment_26 : decode cX3_changePayment 26 = .ok (.iload 4, 2) := by decide +kernel
theorem dX3_changePayment_28 : decode cX3_changePayment 28 = .ok (.iload_n 3, 1) := by decide +kernel
theorem dX3_changePayment_29 : decode cX3_changePayment 29 = .ok (.iastore, 1) := by decide +kernel
theorem dX3_changePayment_30 : decode cX3_changePayment 30 = .ok (.iload 5, 2) := by decide +kernel
theorem dX3_changePayment_32 : decode cX3_changePayment 32 = .ok (.iload_n 3, 1) := by decide +kernel
theorem dX3_changePayment_33 : decode cX3_changePayment 33 = .ok (.if_icmp .ne 7, 3) := by decide +kernel
theorem dX3_changePayment_36 : decode cX3_changePayment 36 = .ok (.iconst 0, 1) := by decide +kernel
theorem dX3_changePayment_37 : decode cX3_changePayment 37 = .ok (.goto 4, 3) := by decide +kernel
theorem dX3_changePayment_40 : decode cX3_changePayment 40 = .ok (.iconst 1, 1) := by decide +kernel
theorem dX3_changePayment_41 : decode cX3_changePayment 41 = .ok (.ireturn, 1) := by decide +kernel
theorem dX3_heft_0 : decode cX3_heft 0 = .ok (.aload_n 0, 1) := by decide +kernel
theorem dX3_heft_1 : decode cX3_heft 1 = .ok (.invokespecial 26, 3) := by decide +kernel
theorem dX3_heft_4 : decode cX3_heft 4 = .ok (.bipush 100, 2) := by decide +kernel
theorem dX3_heft_6 : decode cX3_heft 6 = .ok (.iadd, 1) := by decide +kernel
theorem dX3_heft_7 : decode cX3_heft 7 = .ok (.ireturn, 1) := by decide +kernel
theorem dX3_fail_0 : decode cX3_fail 0 = .ok (.new 30, 3) := by decide +kernel
theorem dX3_fail_3 : decode cX3_fail 3 = .ok (.dup, 1) := by decide +kernel
theorem dX3_fail_4 : decode cX3_fail 4 = .ok (.ldc 32, 2) := by decide +kernel
theorem dX3_fail_6 : decode cX3_fail 6 = .ok (.invokespecial 34, 3) := by decide +kernel
theorem dX3_fail_9 : decode cX3_fail 9 = .ok (.athrow, 1) := by decide +kernel
theorem dX4_init_0 : decode cX4_init 0 = .ok (.aload_n 0, 1) := by decide +kernel
theorem dX4_init_1 : decode cX4_init 1 = .ok (.invokespecial 3, 3) := by decide +kernel
theorem dX4_init_4 : decode cX4_init 4 = .ok (.aload_n 0, 1) := by decide +kernel
theorem dX4_init_5 : decode cX4_init 5 = .ok (.bipush 60, 2) := by decide +kernel
theorem dX4_init_7 : decode cX4_init 7 = .ok (.newarray .long, 2) := by decide +kernel
theorem dX4_init_9 : decode cX4_init 9 = .ok (.putfield 9, 3) := by decide +kernel
theorem dX4_init_12 : decode cX4_init 12 = .ok (.return_, 1) := by decide +kernel
theorem dX4_holdNothing_0 : decode cX4_holdNothing 0 = .ok (.aload_n 0, 1) := by decide +kernel
theorem dX4_holdNothing_1 : decode cX4_holdNothing 1 = .ok (.iconst 0, 1) := by decide +kernel
theorem dX4_holdNothing_2 : decode cX4_holdNothing 2 = .ok (.putfield 15, 3) := by decide +kernel
theorem dX4_holdNothing_5 : decode cX4_holdNothing 5 = .ok (.aload_n 0, 1) := by decide +kernel
theorem dX4_holdNothing_6 : decode cX4_holdNothing 6 = .ok (.aconst_null, 1) := by decide +kernel
theorem dX4_holdNothing_7 : decode cX4_holdNothing 7 = .ok (.putfield 19, 3) := by decide +kernel
theorem dX4_holdNothing_10 : decode cX4_holdNothing 10 = .ok (.return_, 1) := by decide +kernel
theorem dX4_holdRule_0 : decode cX4_holdRule 0 = .ok (.aload_n 0, 1) := by decide +kernel
theorem dX4_holdRule_1 : decode cX4_holdRule 1 = .ok (.iconst 1, 1) := by decide +kernel
theorem dX4_holdRule_2 : decode cX4_holdRule 2 = .ok (.putfield 15, 3) := by decide +kernel
theorem dX4_holdRule_5 : decode cX4_holdRule 5 = .ok (.aload_n 0, 1) := by decide +kernel
theorem dX4_holdRule_6 : decode cX4_holdRule 6 = .ok (.aload_n 1, 1) := by decide +kernel
theorem dX4_holdRule_7 : decode cX4_holdRule 7 = .ok (.putfield 19, 3) := by decide +kernel
theorem dX4_holdRule_10 : decode cX4_holdRule 10 = .ok (.aload_n 0, 1) := by decide +kernel
theorem dX4_holdRule_11 : decode cX4_holdRule 11 = .ok (.aload_n 1, 1) := by decide +kernel
theorem dX4_holdRule_12 : decode cX4_holdRule 12 = .ok (.invokevirtual 23, 3) := by decide +kernel
theorem dX4_holdRule_15 : decode cX4_holdRule 15 = .ok (.putfield 29, 3) := by decide +kernel
theorem dX4_holdRule_18 : decode cX4_holdRule 18 = .ok (.return_, 1) := by decide +kernel
theorem dX4_holdRow_0 : decode cX4_holdRow 0 = .ok (.aload_n 0, 1) := by decide +kernel
theorem dX4_holdRow_1 : decode cX4_holdRow 1 = .ok (.iload_n 1, 1) := by decide +kernel
theorem dX4_holdRow_2 : decode cX4_holdRow 2 = .ok (.putfield 15, 3) := by decide +kernel
theorem dX4_holdRow_5 : decode cX4_holdRow 5 = .ok (.aload_n 0, 1) := by decide +kernel
theorem dX4_holdRow_6 : decode cX4_holdRow 6 = .ok (.aconst_null, 1) := by decide +kernel
theorem dX4_holdRow_7 : decode cX4_holdRow 7 = .ok (.putfield 19, 3) := by decide +kernel
theorem dX4_holdRow_10 : decode cX4_holdRow 10 = .ok (.aload_n 0, 1) := by decide +kernel
theorem dX4_holdRow_11 : decode cX4_holdRow 11 = .ok (.iload_n 2, 1) := by decide +kernel
theorem dX4_holdRow_12 : decode cX4_holdRow 12 = .ok (.putfield 31, 3) := by decide +kernel
theorem dX4_holdRow_15 : decode cX4_holdRow 15 = .ok (.aload_n 0, 1) := by decide +kernel
theorem dX4_holdRow_16 : decode cX4_holdRow 16 = .ok (.getfield 9, 3) := by decide +kernel
theorem dX4_holdRow_19 : decode cX4_holdRow 19 = .ok (.lconst 0, 1) := by decide +kernel
theorem dX4_holdRow_20 : decode cX4_holdRow 20 = .ok (.invokestatic 34, 3) := by decide +kernel
theorem dX4_holdRow_23 : decode cX4_holdRow 23 = .ok (.return_, 1) := by decide +kernel
theorem dX4_holdsRow_0 : decode cX4_holdsRow 0 = .ok (.aload_n 0, 1) := by decide +kernel
theorem dX4_holdsRow_1 : decode cX4_holdsRow 1 = .ok (.getfield 15, 3) := by decide +kernel
theorem dX4_holdsRow_4 : decode cX4_holdsRow 4 = .ok (.iconst 3, 1) := by decide +kernel
theorem dX4_holdsRow_5 : decode cX4_holdsRow 5 = .ok (.if_icmp .eq 11, 3) := by decide +kernel
theorem dX4_holdsRow_8 : decode cX4_holdsRow 8 = .ok (.aload_n 0, 1) := by decide +kernel
theorem dX4_holdsRow_9 : decode cX4_holdsRow 9 = .ok (.getfield 15, 3) := by decide +kernel
theorem dX4_holdsRow_12 : decode cX4_holdsRow 12 = .ok (.iconst 4, 1) := by decide +kernel
theorem dX4_holdsRow_13 : decode cX4_holdsRow 13 = .ok (.if_icmp .ne 7, 3) := by decide +kernel
theorem dX4_holdsRow_16 : decode cX4_holdsRow 16 = .ok (.iconst 1, 1) := by decide +kernel
theorem dX4_holdsRow_17 : decode cX4_holdsRow 17 = .ok (.goto 4, 3) := by decide +kernel
theorem dX4_holdsRow_20 : decode cX4_holdsRow 20 = .ok (.iconst 0, 1) := by decide +kernel
theorem dX4_holdsRow_21 : decode cX4_holdsRow 21 = .ok (.ireturn, 1) := by decide +kernel
theorem dX4_hasPlaces_0 : decode cX4_hasPlaces 0 = .ok (.iload_n 1, 1) := by decide +kernel
theorem dX4_hasPlaces_1 : decode cX4_hasPlaces 1 = .ok (.ifCond .lt 29, 3) := by decide +kernel
theorem dX4_hasPlaces_4 : decode cX4_hasPlaces 4 = .ok (.iload_n 2, 1) := by decide +kernel
theorem dX4_hasPlaces_5 : decode cX4_hasPlaces 5 = .ok (.ifCond .lt 25, 3) := by decide +kernel
theorem dX4_hasPlaces_8 : decode cX4_hasPlaces 8 = .ok (.iload_n 2, 1) := by decide +kernel
theorem dX4_hasPlaces_9 : decode cX4_hasPlaces 9 = .ok (.aload_n 0, 1) := by decide +kernel
theorem dX4_hasPlaces_10 : decode cX4_hasPlaces 10 = .ok (.getfield 31, 3) := by decide +kernel
theorem dX4_hasPlaces_13 : decode cX4_hasPlaces 13 = .ok (.if_icmp .gt 17, 3) := by decide +kernel
theorem dX4_hasPlaces_16 : decode cX4_hasPlaces 16 = .ok (.iload_n 1, 1) := by decide +kernel
theorem dX4_hasPlaces_17 : decode cX4_hasPlaces 17 = .ok (.aload_n 0, 1) := by decide +kernel
theorem dX4_hasPlaces_18 : decode cX4_hasPlaces 18 = .ok (.getfield 31, 3) := by decide +kernel
theorem dX4_hasPlaces_21 : decode cX4_hasPlaces 21 = .ok (.iload_n 2, 1) := by decide +kernel
theorem dX4_hasPlaces_22 : decode cX4_hasPlaces 22 = .ok (.isub, 1) := by decide +kernel
theorem dX4_hasPlaces_23 : decode cX4_hasPlaces 23 = .ok (.if_icmp .gt 7, 3) := by decide +kernel
theorem dX4_hasPlaces_26 : decode cX4_hasPlaces 26 = .ok (.iconst 1, 1) := by decide +kernel
theorem dX4_hasPlaces_27 : decode cX4_hasPlaces 27 = .ok (.goto 4, 3) := by decide +kernel
theorem dX4_hasPlaces_30 : decode cX4_hasPlaces 30 = .ok (.iconst 0, 1) := by decide +kernel
theorem dX4_hasPlaces_31 : decode cX4_hasPlaces 31 = .ok (.ireturn, 1) := by decide +kernel
theorem dX5_init_0 : decode cX5_init 0 = .ok (.aload_n 0, 1) := by decide +kernel
theorem dX5_init_1 : decode cX5_init 1 = .ok (.invokespecial 3, 3) := by decide +kernel
theorem dX5_init_4 : decode cX5_init 4 = .ok (.aload_n 0, 1) := by decide +kernel
theorem dX5_init_5 : decode cX5_init 5 = .ok (.iload_n 1, 1) := by decide +kernel
theorem dX5_init_6 : decode cX5_init 6 = .ok (.putfield 9, 3) := by decide +kernel
theorem dX5_init_9 : decode cX5_init 9 = .ok (.aload_n 0, 1) := by decide +kernel
theorem dX5_init_10 : decode cX5_init 10 = .ok (.aload_n 2, 1) := by decide +kernel
theorem dX5_init_11 : decode cX5_init 11 = .ok (.putfield 15, 3) := by decide +kernel
theorem dX5_init_14 : decode cX5_init 14 = .ok (.aload_n 0, 1) := by decide +kernel
theorem dX5_init_15 : decode cX5_init 15 = .ok (.aload_n 2, 1) := by decide +kernel
theorem dX5_init_16 : decode cX5_init 16 = .ok (.getfield 19, 3) := by decide +kernel
theorem dX5_init_19 : decode cX5_init 19 = .ok (.newarray .int, 2) := by decide +kernel
theorem dX5_init_21 : decode cX5_init 21 = .ok (.putfield 24, 3) := by decide +kernel
theorem dX5_init_24 : decode cX5_init 24 = .ok (.return_, 1) := by decide +kernel
theorem dX5_settle_0 : decode cX5_settle 0 = .ok (.return_, 1) := by decide +kernel
theorem dX5_endAt_0 : decode cX5_endAt 0 = .ok (.aload_n 0, 1) := by decide +kernel
theorem dX5_endAt_1 : decode cX5_endAt 1 = .ok (.getfield 24, 3) := by decide +kernel
theorem dX5_endAt_4 : decode cX5_endAt 4 = .ok (.iload_n 1, 1) := by decide +kernel
theorem dX5_endAt_5 : decode cX5_endAt 5 = .ok (.iaload, 1) := by decide +kernel
theorem dX5_endAt_6 : decode cX5_endAt 6 = .ok (.ireturn, 1) := by decide +kernel
theorem dX5_paymentAt_0 : decode cX5_paymentAt 0 = .ok (.iconst 0, 1) := by decide +kernel
theorem dX5_paymentAt_1 : decode cX5_paymentAt 1 = .ok (.ireturn, 1) := by decide +kernel
theorem dX5_profit_0 : decode cX5_profit 0 = .ok (.aload_n 0, 1) := by decide +kernel
theorem dX5_profit_1 : decode cX5_profit 1 = .ok (.getfield 15, 3) := by decide +kernel
theorem dX5_profit_4 : decode cX5_profit 4 = .ok (.iload_n 3, 1) := by decide +kernel
theorem dX5_profit_5 : decode cX5_profit 5 = .ok (.aload_n 0, 1) := by decide +kernel
theorem dX5_profit_6 : decode cX5_profit 6 = .ok (.iload_n 1, 1) := by decide +kernel
theorem dX5_profit_7 : decode cX5_profit 7 = .ok (.invokevirtual 28, 3) := by decide +kernel
theorem dX5_profit_10 : decode cX5_profit 10 = .ok (.invokevirtual 32, 3) := by decide +kernel
theorem dX5_profit_13 : decode cX5_profit 13 = .ok (.aload_n 0, 1) := by decide +kernel
theorem dX5_profit_14 : decode cX5_profit 14 = .ok (.iload_n 1, 1) := by decide +kernel
theorem dX5_profit_15 : decode cX5_profit 15 = .ok (.iload_n 2, 1) := by decide +kernel
theorem dX5_profit_16 : decode cX5_profit 16 = .ok (.invokevirtual 35, 3) := by decide +kernel
theorem dX5_profit_19 : decode cX5_profit 19 = .ok (.isub, 1) := by decide +kernel
theorem dX5_profit_20 : decode cX5_profit 20 = .ok (.ireturn, 1) := by decide +kernel
theorem dX5_changeEnd_0 : decode cX5_changeEnd 0 = .ok (.aload_n 0, 1) := by decide +kernel
theorem dX5_changeEnd_1 : decode cX5_changeEnd 1 = .ok (.getfield 24, 3) := by decide +kernel
theorem dX5_changeEnd_4 : decode cX5_changeEnd 4 = .ok (.iload_n 1, 1) := by decide +kernel
theorem dX5_changeEnd_5 : decode cX5_changeEnd 5 = .ok (.iaload, 1) := by decide +kernel
theorem dX5_changeEnd_6 : decode cX5_changeEnd 6 = .ok (.istore_n 3, 1) := by decide +kernel
theorem dX5_changeEnd_7 : decode cX5_changeEnd 7 = .ok (.aload_n 0, 1) := by decide +kernel
theorem dX5_changeEnd_8 : decode cX5_changeEnd 8 = .ok (.getfield 24, 3) := by decide +kernel
theorem dX5_changeEnd_11 : decode cX5_changeEnd 11 = .ok (.iload_n 1, 1) := by decide +kernel
theorem dX5_changeEnd_12 : decode cX5_changeEnd 12 = .ok (.iload_n 2, 1) := by decide +kernel
theorem dX5_changeEnd_13 : decode cX5_changeEnd 13 = .ok (.iastore, 1) := by decide +kernel
theorem dX5_changeEnd_14 : decode cX5_changeEnd 14 = .ok (.iload_n 3, 1) := by decide +kernel
theorem dX5_changeEnd_15 : decode cX5_changeEnd 15 = .ok (.ireturn, 1) := by decide +kernel
theorem dX5_changePayment_0 : decode cX5_changePayment 0 = .ok (.bipush (-4), 2) := by decide +kernel
theorem dX5_changePayment_2 : decode cX5_changePayment 2 = .ok (.ireturn, 1) := by decide +kernel
theorem dX5_changeGift_0 : decode cX5_changeGift 0 = .ok (.bipush (-4), 2) := by decide +kernel
theorem dX5_changeGift_2 : decode cX5_changeGift 2 = .ok (.ireturn, 1) := by decide +kernel
theorem dX5_changeWeight_0 : decode cX5_changeWeight 0 = .ok (.bipush (-4), 2) := by decide +kernel
theorem dX5_changeWeight_2 : decode cX5_changeWeight 2 = .ok (.ireturn, 1) := by decide +kernel
theorem dX5_changePlace_0 : decode cX5_changePlace 0 = .ok (.bipush (-4), 2) := by decide +kernel
theorem dX5_changePlace_2 : decode cX5_changePlace 2 = .ok (.ireturn, 1) := by decide +kernel
theorem dX5_heft_0 : decode cX5_heft 0 = .ok (.aload_n 0, 1) := by decide +kernel
theorem dX5_heft_1 : decode cX5_heft 1 = .ok (.getfield 9, 3) := by decide +kernel
theorem dX5_heft_4 : decode cX5_heft 4 = .ok (.bipush 10, 2) := by decide +kernel
theorem dX5_heft_6 : decode cX5_heft 6 = .ok (.iadd, 1) := by decide +kernel
theorem dX5_heft_7 : decode cX5_heft 7 = .ok (.ireturn, 1) := by decide +kernel
theorem dX5_fail_0 : decode cX5_fail 0 = .ok (.return_, 1) := by decide +kernel
theorem dX6_init_0 : decode cX6_init 0 = .ok (.aload_n 0, 1) := by decide +kernel
theorem dX6_init_1 : decode cX6_init 1 = .ok (.invokespecial 3, 3) := by decide +kernel
theorem dX6_init_4 : decode cX6_init 4 = .ok (.aload_n 0, 1) := by decide +kernel
theorem dX6_init_5 : decode cX6_init 5 = .ok (.aload_n 1, 1) := by decide +kernel
theorem dX6_init_6 : decode cX6_init 6 = .ok (.putfield 9, 3) := by decide +kernel
theorem dX6_init_9 : decode cX6_init 9 = .ok (.aload_n 0, 1) := by decide +kernel
theorem dX6_init_10 : decode cX6_init 10 = .ok (.iconst 5, 1) := by decide +kernel
theorem dX6_init_11 : decode cX6_init 11 = .ok (.newarray .boolean, 2) := by decide +kernel
theorem dX6_init_13 : decode cX6_init 13 = .ok (.putfield 15, 3) := by decide +kernel
theorem dX6_init_16 : decode cX6_init 16 = .ok (.aload_n 0, 1) := by decide +kernel
theorem dX6_init_17 : decode cX6_init 17 = .ok (.bipush 25, 2) := by decide +kernel
theorem dX6_init_19 : decode cX6_init 19 = .ok (.newarray .int, 2) := by decide +kernel
theorem dX6_init_21 : decode cX6_init 21 = .ok (.putfield 19, 3) := by decide +kernel
theorem dX6_init_24 : decode cX6_init 24 = .ok (.aload_n 0, 1) := by decide +kernel
theorem dX6_init_25 : decode cX6_init 25 = .ok (.bipush 25, 2) := by decide +kernel
theorem dX6_init_27 : decode cX6_init 27 = .ok (.newarray .int, 2) := by decide +kernel
theorem dX6_init_29 : decode cX6_init 29 = .ok (.putfield 23, 3) := by decide +kernel
theorem dX6_init_32 : decode cX6_init 32 = .ok (.aload_n 0, 1) := by decide +kernel
theorem dX6_init_33 : decode cX6_init 33 = .ok (.sipush 160, 3) := by decide +kernel
theorem dX6_init_36 : decode cX6_init 36 = .ok (.newarray .int, 2) := by decide +kernel
theorem dX6_init_38 : decode cX6_init 38 = .ok (.putfield 26, 3) := by decide +kernel
theorem dX6_init_41 : decode cX6_init 41 = .ok (.return_, 1) := by decide +kernel
theorem dX6_look_0 : decode cX6_look 0 = .ok (.iconst 0, 1) := by decide +kernel
theorem dX6_look_1 : decode cX6_look 1 = .ok (.istore 4, 2) := by decide +kernel
theorem dX6_look_3 : decode cX6_look 3 = .ok (.iload 4, 2) := by decide +kernel
theorem dX6_look_5 : decode cX6_look 5 = .ok (.iconst 5, 1) := by decide +kernel
theorem dX6_look_6 : decode cX6_look 6 = .ok (.if_icmp .ge 17, 3) := by decide +kernel
theorem dX6_look_9 : decode cX6_look 9 = .ok (.aload_n 0, 1) := by decide +kernel
theorem dX6_look_10 : decode cX6_look 10 = .ok (.getfield 15, 3) := by decide +kernel
theorem dX6_look_13 : decode cX6_look 13 = .ok (.iload 4, 2) := by decide +kernel
theorem dX6_look_15 : decode cX6_look 15 = .ok (.iconst 0, 1) := by decide +kernel
theorem dX6_look_16 : decode cX6_look 16 = .ok (.bastore, 1) := by decide +kernel
theorem dX6_look_17 : decode cX6_look 17 = .ok (.iinc 4 1, 3) := by decide +kernel
theorem dX6_look_20 : decode cX6_look 20 = .ok (.goto (-17), 3) := by decide +kernel
theorem dX6_look_23 : decode cX6_look 23 = .ok (.iconst 0, 1) := by decide +kernel
theorem dX6_look_24 : decode cX6_look 24 = .ok (.istore 4, 2) := by decide +kernel
theorem dX6_look_26 : decode cX6_look 26 = .ok (.iload 4, 2) := by decide +kernel
theorem dX6_look_28 : decode cX6_look 28 = .ok (.aload_n 0, 1) := by decide +kernel
theorem dX6_look_29 : decode cX6_look 29 = .ok (.getfield 9, 3) := by decide +kernel
theorem dX6_look_32 : decode cX6_look 32 = .ok (.getfield 29, 3) := by decide +kernel
theorem dX6_look_35 : decode cX6_look 35 = .ok (.if_icmp .ge 30, 3) := by decide +kernel
theorem dX6_look_38 : decode cX6_look 38 = .ok (.aload_n 0, 1) := by decide +kernel
theorem dX6_look_39 : decode cX6_look 39 = .ok (.getfield 15, 3) := by decide +kernel
theorem dX6_look_42 : decode cX6_look 42 = .ok (.aload_n 1, 1) := by decide +kernel
theorem dX6_look_43 : decode cX6_look 43 = .ok (.aload_n 0, 1) := by decide +kernel
theorem dX6_look_44 : decode cX6_look 44 = .ok (.getfield 9, 3) := by decide +kernel
theorem dX6_look_47 : decode cX6_look 47 = .ok (.iload_n 2, 1) := by decide +kernel
theorem dX6_look_48 : decode cX6_look 48 = .ok (.iload_n 3, 1) := by decide +kernel
theorem dX6_look_49 : decode cX6_look 49 = .ok (.iload 4, 2) := by decide +kernel
theorem dX6_look_51 : decode cX6_look 51 = .ok (.invokevirtual 35, 3) := by decide +kernel
theorem dX6_look_54 : decode cX6_look 54 = .ok (.invokevirtual 39, 3) := by decide +kernel
theorem dX6_look_57 : decode cX6_look 57 = .ok (.iconst 1, 1) := by decide +kernel
theorem dX6_look_58 : decode cX6_look 58 = .ok (.bastore, 1) := by decide +kernel
theorem dX6_look_59 : decode cX6_look 59 = .ok (.iinc 4 1, 3) := by decide +kernel
theorem dX6_look_62 : decode cX6_look 62 = .ok (.goto (-36), 3) := by decide +kernel
theorem dX6_look_65 : decode cX6_look 65 = .ok (.aload_n 0, 1) := by decide +kernel
theorem dX6_look_66 : decode cX6_look 66 = .ok (.getfield 19, 3) := by decide +kernel
theorem dX6_look_69 : decode cX6_look 69 = .ok (.ldc 45, 2) := by decide +kernel
theorem dX6_look_71 : decode cX6_look 71 = .ok (.invokestatic 46, 3) := by decide +kernel
theorem dX6_look_74 : decode cX6_look 74 = .ok (.iconst 0, 1) := by decide +kernel
theorem dX6_look_75 : decode cX6_look 75 = .ok (.istore 4, 2) := by decide +kernel
theorem dX6_look_77 : decode cX6_look 77 = .ok (.iload 4, 2) := by decide +kernel
theorem dX6_look_79 : decode cX6_look 79 = .ok (.aload_n 0, 1) := by decide +kernel
theorem dX6_look_80 : decode cX6_look 80 = .ok (.getfield 9, 3) := by decide +kernel
theorem dX6_look_83 : decode cX6_look 83 = .ok (.getfield 29, 3) := by decide +kernel
theorem dX6_look_86 : decode cX6_look 86 = .ok (.if_icmp .ge 30, 3) := by decide +kernel
theorem dX6_look_89 : decode cX6_look 89 = .ok (.aload_n 0, 1) := by decide +kernel
theorem dX6_look_90 : decode cX6_look 90 = .ok (.iload 4, 2) := by decide +kernel
theorem dX6_look_92 : decode cX6_look 92 = .ok (.aload_n 1, 1) := by decide +kernel
theorem dX6_look_93 : decode cX6_look 93 = .ok (.aload_n 0, 1) := by decide +kernel
theorem dX6_look_94 : decode cX6_look 94 = .ok (.getfield 9, 3) := by decide +kernel
theorem dX6_look_97 : decode cX6_look 97 = .ok (.iload_n 2, 1) := by decide +kernel
theorem dX6_look_98 : decode cX6_look 98 = .ok (.iload_n 3, 1) := by decide +kernel
theorem dX6_look_99 : decode cX6_look 99 = .ok (.iload 4, 2) := by decide +kernel
theorem dX6_look_101 : decode cX6_look 101 = .ok (.invokevirtual 35, 3) := by decide +kernel
theorem dX6_look_104 : decode cX6_look 104 = .ok (.invokevirtual 39, 3) := by decide +kernel
theorem dX6_look_107 : decode cX6_look 107 = .ok (.invokevirtual 52, 3) := by decide +kernel
theorem dX6_look_110 : decode cX6_look 110 = .ok (.iinc 4 1, 3) := by decide +kernel
theorem dX6_look_113 : decode cX6_look 113 = .ok (.goto (-36), 3) := by decide +kernel
theorem dX6_look_116 : decode cX6_look 116 = .ok (.return_, 1) := by decide +kernel
theorem dX6_measure_0 : decode cX6_measure 0 = .ok (.iconst 0, 1) := by decide +kernel
theorem dX6_measure_1 : decode cX6_measure 1 = .ok (.istore_n 3, 1) := by decide +kernel
theorem dX6_measure_2 : decode cX6_measure 2 = .ok (.iload_n 3, 1) := by decide +kernel
theorem dX6_measure_3 : decode cX6_measure 3 = .ok (.aload_n 0, 1) := by decide +kernel
theorem dX6_measure_4 : decode cX6_measure 4 = .ok (.getfield 9, 3) := by decide +kernel
theorem dX6_measure_7 : decode cX6_measure 7 = .ok (.getfield 56, 3) := by decide +kernel
theorem dX6_measure_10 : decode cX6_measure 10 = .ok (.if_icmp .ge 62, 3) := by decide +kernel
theorem dX6_measure_13 : decode cX6_measure 13 = .ok (.aload_n 0, 1) := by decide +kernel
theorem dX6_measure_14 : decode cX6_measure 14 = .ok (.getfield 9, 3) := by decide +kernel
end
section
theorem dX6_measure_17 : decode cX6_measure 17 = .ok (.iload_n 1, 1) := by decide +kernel
theorem dX6_measure_18 : decode cX6_measure 18 = .ok (.iload_n 2, 1) := by decide +kernel
theorem dX6_measure_19 : decode cX6_measure 19 = .ok (.invokevirtual 59, 3) := by decide +kernel
theorem dX6_measure_22 : decode cX6_measure 22 = .ok (.aload_n 0, 1) := by decide +kernel
theorem dX6_measure_23 : decode cX6_measure 23 = .ok (.getfield 9, 3) := by decide +kernel
theorem dX6_measure_26 : decode cX6_measure 26 = .ok (.iload_n 1, 1) := by decide +kernel
theorem dX6_measure_27 : decode cX6_measure 27 = .ok (.iload_n 3, 1) := by decide +kernel
theorem dX6_measure_28 : decode cX6_measure 28 = .ok (.invokevirtual 59, 3) := by decide +kernel
theorem dX6_measure_31 : decode cX6_measure 31 = .ok (.isub, 1) := by decide +kernel
theorem dX6_measure_32 : decode cX6_measure 32 = .ok (.istore 4, 2) := by decide +kernel
theorem dX6_measure_34 : decode cX6_measure 34 = .ok (.aload_n 0, 1) := by decide +kernel
theorem dX6_measure_35 : decode cX6_measure 35 = .ok (.getfield 15, 3) := by decide +kernel
theorem dX6_measure_38 : decode cX6_measure 38 = .ok (.iload_n 3, 1) := by decide +kernel
theorem dX6_measure_39 : decode cX6_measure 39 = .ok (.baload, 1) := by decide +kernel
theorem dX6_measure_40 : decode cX6_measure 40 = .ok (.ifCond .eq 26, 3) := by decide +kernel
theorem dX6_measure_43 : decode cX6_measure 43 = .ok (.iload 4, 2) := by decide +kernel
theorem dX6_measure_45 : decode cX6_measure 45 = .ok (.aload_n 0, 1) := by decide +kernel
theorem dX6_measure_46 : decode cX6_measure 46 = .ok (.iload_n 3, 1) := by decide +kernel
theorem dX6_measure_47 : decode cX6_measure 47 = .ok (.iload_n 2, 1) := by decide +kernel
theorem dX6_measure_48 : decode cX6_measure 48 = .ok (.invokevirtual 63, 3) := by decide +kernel
theorem dX6_measure_51 : decode cX6_measure 51 = .ok (.if_icmp .ge 15, 3) := by decide +kernel
theorem dX6_measure_54 : decode cX6_measure 54 = .ok (.aload_n 0, 1) := by decide +kernel
theorem dX6_measure_55 : decode cX6_measure 55 = .ok (.getfield 19, 3) := by decide +kernel
theorem dX6_measure_58 : decode cX6_measure 58 = .ok (.iload_n 3, 1) := by decide +kernel
theorem dX6_measure_59 : decode cX6_measure 59 = .ok (.iconst 5, 1) := by decide +kernel
theorem dX6_measure_60 : decode cX6_measure 60 = .ok (.imul, 1) := by decide +kernel
theorem dX6_measure_61 : decode cX6_measure 61 = .ok (.iload_n 2, 1) := by decide +kernel
theorem dX6_measure_62 : decode cX6_measure 62 = .ok (.iadd, 1) := by decide +kernel
theorem dX6_measure_63 : decode cX6_measure 63 = .ok (.iload 4, 2) := by decide +kernel
theorem dX6_measure_65 : decode cX6_measure 65 = .ok (.iastore, 1) := by decide +kernel
theorem dX6_measure_66 : decode cX6_measure 66 = .ok (.iinc 3 1, 3) := by decide +kernel
theorem dX6_measure_69 : decode cX6_measure 69 = .ok (.goto (-67), 3) := by decide +kernel
theorem dX6_measure_72 : decode cX6_measure 72 = .ok (.return_, 1) := by decide +kernel
theorem dX6_lengthOf_0 : decode cX6_lengthOf 0 = .ok (.aload_n 0, 1) := by decide +kernel
theorem dX6_lengthOf_1 : decode cX6_lengthOf 1 = .ok (.getfield 19, 3) := by decide +kernel
theorem dX6_lengthOf_4 : decode cX6_lengthOf 4 = .ok (.iload_n 1, 1) := by decide +kernel
theorem dX6_lengthOf_5 : decode cX6_lengthOf 5 = .ok (.iconst 5, 1) := by decide +kernel
theorem dX6_lengthOf_6 : decode cX6_lengthOf 6 = .ok (.imul, 1) := by decide +kernel
theorem dX6_lengthOf_7 : decode cX6_lengthOf 7 = .ok (.iload_n 2, 1) := by decide +kernel
theorem dX6_lengthOf_8 : decode cX6_lengthOf 8 = .ok (.iadd, 1) := by decide +kernel
theorem dX6_lengthOf_9 : decode cX6_lengthOf 9 = .ok (.iaload, 1) := by decide +kernel
theorem dX6_lengthOf_10 : decode cX6_lengthOf 10 = .ok (.ireturn, 1) := by decide +kernel
theorem dX6_hasRound_0 : decode cX6_hasRound 0 = .ok (.aload_n 0, 1) := by decide +kernel
theorem dX6_hasRound_1 : decode cX6_hasRound 1 = .ok (.invokevirtual 66, 3) := by decide +kernel
theorem dX6_hasRound_4 : decode cX6_hasRound 4 = .ok (.iconst 0, 1) := by decide +kernel
theorem dX6_hasRound_5 : decode cX6_hasRound 5 = .ok (.istore_n 1, 1) := by decide +kernel
theorem dX6_hasRound_6 : decode cX6_hasRound 6 = .ok (.iload_n 1, 1) := by decide +kernel
theorem dX6_hasRound_7 : decode cX6_hasRound 7 = .ok (.aload_n 0, 1) := by decide +kernel
theorem dX6_hasRound_8 : decode cX6_hasRound 8 = .ok (.getfield 9, 3) := by decide +kernel
theorem dX6_hasRound_11 : decode cX6_hasRound 11 = .ok (.getfield 56, 3) := by decide +kernel
theorem dX6_hasRound_14 : decode cX6_hasRound 14 = .ok (.if_icmp .ge 33, 3) := by decide +kernel
theorem dX6_hasRound_17 : decode cX6_hasRound 17 = .ok (.aload_n 0, 1) := by decide +kernel
theorem dX6_hasRound_18 : decode cX6_hasRound 18 = .ok (.getfield 15, 3) := by decide +kernel
theorem dX6_hasRound_21 : decode cX6_hasRound 21 = .ok (.iload_n 1, 1) := by decide +kernel
theorem dX6_hasRound_22 : decode cX6_hasRound 22 = .ok (.baload, 1) := by decide +kernel
theorem dX6_hasRound_23 : decode cX6_hasRound 23 = .ok (.ifCond .eq 18, 3) := by decide +kernel
theorem dX6_hasRound_26 : decode cX6_hasRound 26 = .ok (.aload_n 0, 1) := by decide +kernel
theorem dX6_hasRound_27 : decode cX6_hasRound 27 = .ok (.getfield 23, 3) := by decide +kernel
theorem dX6_hasRound_30 : decode cX6_hasRound 30 = .ok (.iload_n 1, 1) := by decide +kernel
theorem dX6_hasRound_31 : decode cX6_hasRound 31 = .ok (.iconst 5, 1) := by decide +kernel
theorem dX6_hasRound_32 : decode cX6_hasRound 32 = .ok (.imul, 1) := by decide +kernel
theorem dX6_hasRound_33 : decode cX6_hasRound 33 = .ok (.iload_n 1, 1) := by decide +kernel
theorem dX6_hasRound_34 : decode cX6_hasRound 34 = .ok (.iadd, 1) := by decide +kernel
theorem dX6_hasRound_35 : decode cX6_hasRound 35 = .ok (.iaload, 1) := by decide +kernel
theorem dX6_hasRound_36 : decode cX6_hasRound 36 = .ok (.ifCond .ge 5, 3) := by decide +kernel
theorem dX6_hasRound_39 : decode cX6_hasRound 39 = .ok (.iconst 1, 1) := by decide +kernel
theorem dX6_hasRound_40 : decode cX6_hasRound 40 = .ok (.ireturn, 1) := by decide +kernel
theorem dX6_hasRound_41 : decode cX6_hasRound 41 = .ok (.iinc 1 1, 3) := by decide +kernel
theorem dX6_hasRound_44 : decode cX6_hasRound 44 = .ok (.goto (-38), 3) := by decide +kernel
theorem dX6_hasRound_47 : decode cX6_hasRound 47 = .ok (.iconst 0, 1) := by decide +kernel
theorem dX6_hasRound_48 : decode cX6_hasRound 48 = .ok (.ireturn, 1) := by decide +kernel
theorem dX6_shorten_0 : decode cX6_shorten 0 = .ok (.aload_n 0, 1) := by decide +kernel
theorem dX6_shorten_1 : decode cX6_shorten 1 = .ok (.getfield 19, 3) := by decide +kernel
theorem dX6_shorten_4 : decode cX6_shorten 4 = .ok (.iconst 0, 1) := by decide +kernel
theorem dX6_shorten_5 : decode cX6_shorten 5 = .ok (.aload_n 0, 1) := by decide +kernel
theorem dX6_shorten_6 : decode cX6_shorten 6 = .ok (.getfield 23, 3) := by decide +kernel
theorem dX6_shorten_9 : decode cX6_shorten 9 = .ok (.iconst 0, 1) := by decide +kernel
theorem dX6_shorten_10 : decode cX6_shorten 10 = .ok (.aload_n 0, 1) := by decide +kernel
theorem dX6_shorten_11 : decode cX6_shorten 11 = .ok (.getfield 19, 3) := by decide +kernel
theorem dX6_shorten_14 : decode cX6_shorten 14 = .ok (.arraylength, 1) := by decide +kernel
theorem dX6_shorten_15 : decode cX6_shorten 15 = .ok (.invokestatic 69, 3) := by decide +kernel
theorem dX6_shorten_18 : decode cX6_shorten 18 = .ok (.iconst 0, 1) := by decide +kernel
theorem dX6_shorten_19 : decode cX6_shorten 19 = .ok (.istore_n 1, 1) := by decide +kernel
theorem dX6_shorten_20 : decode cX6_shorten 20 = .ok (.iload_n 1, 1) := by decide +kernel
theorem dX6_shorten_21 : decode cX6_shorten 21 = .ok (.aload_n 0, 1) := by decide +kernel
theorem dX6_shorten_22 : decode cX6_shorten 22 = .ok (.getfield 9, 3) := by decide +kernel
theorem dX6_shorten_25 : decode cX6_shorten 25 = .ok (.getfield 56, 3) := by decide +kernel
theorem dX6_shorten_28 : decode cX6_shorten 28 = .ok (.if_icmp .ge 52, 3) := by decide +kernel
theorem dX6_shorten_31 : decode cX6_shorten 31 = .ok (.iconst 0, 1) := by decide +kernel
theorem dX6_shorten_32 : decode cX6_shorten 32 = .ok (.istore_n 2, 1) := by decide +kernel
theorem dX6_shorten_33 : decode cX6_shorten 33 = .ok (.iload_n 2, 1) := by decide +kernel
theorem dX6_shorten_34 : decode cX6_shorten 34 = .ok (.aload_n 0, 1) := by decide +kernel
theorem dX6_shorten_35 : decode cX6_shorten 35 = .ok (.getfield 9, 3) := by decide +kernel
theorem dX6_shorten_38 : decode cX6_shorten 38 = .ok (.getfield 56, 3) := by decide +kernel
theorem dX6_shorten_41 : decode cX6_shorten 41 = .ok (.if_icmp .ge 33, 3) := by decide +kernel
theorem dX6_shorten_44 : decode cX6_shorten 44 = .ok (.aload_n 0, 1) := by decide +kernel
theorem dX6_shorten_45 : decode cX6_shorten 45 = .ok (.getfield 15, 3) := by decide +kernel
theorem dX6_shorten_48 : decode cX6_shorten 48 = .ok (.iload_n 1, 1) := by decide +kernel
theorem dX6_shorten_49 : decode cX6_shorten 49 = .ok (.baload, 1) := by decide +kernel
theorem dX6_shorten_50 : decode cX6_shorten 50 = .ok (.ifCond .eq 18, 3) := by decide +kernel
theorem dX6_shorten_53 : decode cX6_shorten 53 = .ok (.aload_n 0, 1) := by decide +kernel
theorem dX6_shorten_54 : decode cX6_shorten 54 = .ok (.getfield 15, 3) := by decide +kernel
theorem dX6_shorten_57 : decode cX6_shorten 57 = .ok (.iload_n 2, 1) := by decide +kernel
theorem dX6_shorten_58 : decode cX6_shorten 58 = .ok (.baload, 1) := by decide +kernel
theorem dX6_shorten_59 : decode cX6_shorten 59 = .ok (.ifCond .eq 9, 3) := by decide +kernel
theorem dX6_shorten_62 : decode cX6_shorten 62 = .ok (.aload_n 0, 1) := by decide +kernel
theorem dX6_shorten_63 : decode cX6_shorten 63 = .ok (.iload_n 2, 1) := by decide +kernel
theorem dX6_shorten_64 : decode cX6_shorten 64 = .ok (.iload_n 1, 1) := by decide +kernel
theorem dX6_shorten_65 : decode cX6_shorten 65 = .ok (.invokevirtual 75, 3) := by decide +kernel
theorem dX6_shorten_68 : decode cX6_shorten 68 = .ok (.iinc 2 1, 3) := by decide +kernel
theorem dX6_shorten_71 : decode cX6_shorten 71 = .ok (.goto (-38), 3) := by decide +kernel
theorem dX6_shorten_74 : decode cX6_shorten 74 = .ok (.iinc 1 1, 3) := by decide +kernel
theorem dX6_shorten_77 : decode cX6_shorten 77 = .ok (.goto (-57), 3) := by decide +kernel
theorem dX6_shorten_80 : decode cX6_shorten 80 = .ok (.return_, 1) := by decide +kernel
theorem dX6_shortenFrom_0 : decode cX6_shortenFrom 0 = .ok (.aload_n 0, 1) := by decide +kernel
theorem dX6_shortenFrom_1 : decode cX6_shortenFrom 1 = .ok (.getfield 23, 3) := by decide +kernel
theorem dX6_shortenFrom_4 : decode cX6_shortenFrom 4 = .ok (.iload_n 1, 1) := by decide +kernel
theorem dX6_shortenFrom_5 : decode cX6_shortenFrom 5 = .ok (.iconst 5, 1) := by decide +kernel
theorem dX6_shortenFrom_6 : decode cX6_shortenFrom 6 = .ok (.imul, 1) := by decide +kernel
theorem dX6_shortenFrom_7 : decode cX6_shortenFrom 7 = .ok (.iload_n 2, 1) := by decide +kernel
theorem dX6_shortenFrom_8 : decode cX6_shortenFrom 8 = .ok (.iadd, 1) := by decide +kernel
theorem dX6_shortenFrom_9 : decode cX6_shortenFrom 9 = .ok (.iaload, 1) := by decide +kernel
theorem dX6_shortenFrom_10 : decode cX6_shortenFrom 10 = .ok (.istore_n 3, 1) := by decide +kernel
theorem dX6_shortenFrom_11 : decode cX6_shortenFrom 11 = .ok (.iconst 0, 1) := by decide +kernel
theorem dX6_shortenFrom_12 : decode cX6_shortenFrom 12 = .ok (.istore 4, 2) := by decide +kernel
theorem dX6_shortenFrom_14 : decode cX6_shortenFrom 14 = .ok (.iload 4, 2) := by decide +kernel
theorem dX6_shortenFrom_16 : decode cX6_shortenFrom 16 = .ok (.aload_n 0, 1) := by decide +kernel
theorem dX6_shortenFrom_17 : decode cX6_shortenFrom 17 = .ok (.getfield 9, 3) := by decide +kernel
theorem dX6_shortenFrom_20 : decode cX6_shortenFrom 20 = .ok (.getfield 56, 3) := by decide +kernel
theorem dX6_shortenFrom_23 : decode cX6_shortenFrom 23 = .ok (.if_icmp .ge 63, 3) := by decide +kernel
theorem dX6_shortenFrom_26 : decode cX6_shortenFrom 26 = .ok (.iload_n 3, 1) := by decide +kernel
theorem dX6_shortenFrom_27 : decode cX6_shortenFrom 27 = .ok (.aload_n 0, 1) := by decide +kernel
theorem dX6_shortenFrom_28 : decode cX6_shortenFrom 28 = .ok (.getfield 23, 3) := by decide +kernel
theorem dX6_shortenFrom_31 : decode cX6_shortenFrom 31 = .ok (.iload_n 2, 1) := by decide +kernel
theorem dX6_shortenFrom_32 : decode cX6_shortenFrom 32 = .ok (.iconst 5, 1) := by decide +kernel
theorem dX6_shortenFrom_33 : decode cX6_shortenFrom 33 = .ok (.imul, 1) := by decide +kernel
theorem dX6_shortenFrom_34 : decode cX6_shortenFrom 34 = .ok (.iload 4, 2) := by decide +kernel
theorem dX6_shortenFrom_36 : decode cX6_shortenFrom 36 = .ok (.iadd, 1) := by decide +kernel
theorem dX6_shortenFrom_37 : decode cX6_shortenFrom 37 = .ok (.iaload, 1) := by decide +kernel
theorem dX6_shortenFrom_38 : decode cX6_shortenFrom 38 = .ok (.iadd, 1) := by decide +kernel
theorem dX6_shortenFrom_39 : decode cX6_shortenFrom 39 = .ok (.istore 5, 2) := by decide +kernel
theorem dX6_shortenFrom_41 : decode cX6_shortenFrom 41 = .ok (.aload_n 0, 1) := by decide +kernel
theorem dX6_shortenFrom_42 : decode cX6_shortenFrom 42 = .ok (.getfield 15, 3) := by decide +kernel
theorem dX6_shortenFrom_45 : decode cX6_shortenFrom 45 = .ok (.iload 4, 2) := by decide +kernel
theorem dX6_shortenFrom_47 : decode cX6_shortenFrom 47 = .ok (.baload, 1) := by decide +kernel
theorem dX6_shortenFrom_48 : decode cX6_shortenFrom 48 = .ok (.ifCond .eq 32, 3) := by decide +kernel
theorem dX6_shortenFrom_51 : decode cX6_shortenFrom 51 = .ok (.iload 5, 2) := by decide +kernel
theorem dX6_shortenFrom_53 : decode cX6_shortenFrom 53 = .ok (.aload_n 0, 1) := by decide +kernel
theorem dX6_shortenFrom_54 : decode cX6_shortenFrom 54 = .ok (.getfield 23, 3) := by decide +kernel
theorem dX6_shortenFrom_57 : decode cX6_shortenFrom 57 = .ok (.iload_n 1, 1) := by decide +kernel
theorem dX6_shortenFrom_58 : decode cX6_shortenFrom 58 = .ok (.iconst 5, 1) := by decide +kernel
theorem dX6_shortenFrom_59 : decode cX6_shortenFrom 59 = .ok (.imul, 1) := by decide +kernel
theorem dX6_shortenFrom_60 : decode cX6_shortenFrom 60 = .ok (.iload 4, 2) := by decide +kernel
theorem dX6_shortenFrom_62 : decode cX6_shortenFrom 62 = .ok (.iadd, 1) := by decide +kernel
theorem dX6_shortenFrom_63 : decode cX6_shortenFrom 63 = .ok (.iaload, 1) := by decide +kernel
theorem dX6_shortenFrom_64 : decode cX6_shortenFrom 64 = .ok (.if_icmp .ge 16, 3) := by decide +kernel
theorem dX6_shortenFrom_67 : decode cX6_shortenFrom 67 = .ok (.aload_n 0, 1) := by decide +kernel
theorem dX6_shortenFrom_68 : decode cX6_shortenFrom 68 = .ok (.getfield 23, 3) := by decide +kernel
theorem dX6_shortenFrom_71 : decode cX6_shortenFrom 71 = .ok (.iload_n 1, 1) := by decide +kernel
theorem dX6_shortenFrom_72 : decode cX6_shortenFrom 72 = .ok (.iconst 5, 1) := by decide +kernel
theorem dX6_shortenFrom_73 : decode cX6_shortenFrom 73 = .ok (.imul, 1) := by decide +kernel
theorem dX6_shortenFrom_74 : decode cX6_shortenFrom 74 = .ok (.iload 4, 2) := by decide +kernel
theorem dX6_shortenFrom_76 : decode cX6_shortenFrom 76 = .ok (.iadd, 1) := by decide +kernel
theorem dX6_shortenFrom_77 : decode cX6_shortenFrom 77 = .ok (.iload 5, 2) := by decide +kernel
theorem dX6_shortenFrom_79 : decode cX6_shortenFrom 79 = .ok (.iastore, 1) := by decide +kernel
theorem dX6_shortenFrom_80 : decode cX6_shortenFrom 80 = .ok (.iinc 4 1, 3) := by decide +kernel
theorem dX6_shortenFrom_83 : decode cX6_shortenFrom 83 = .ok (.goto (-69), 3) := by decide +kernel
theorem dX6_shortenFrom_86 : decode cX6_shortenFrom 86 = .ok (.return_, 1) := by decide +kernel
theorem dX6_priceOf_0 : decode cX6_priceOf 0 = .ok (.iconst 0, 1) := by decide +kernel
theorem dX6_priceOf_1 : decode cX6_priceOf 1 = .ok (.istore_n 2, 1) := by decide +kernel
theorem dX6_priceOf_2 : decode cX6_priceOf 2 = .ok (.iload_n 2, 1) := by decide +kernel
theorem dX6_priceOf_3 : decode cX6_priceOf 3 = .ok (.aload_n 0, 1) := by decide +kernel
theorem dX6_priceOf_4 : decode cX6_priceOf 4 = .ok (.getfield 9, 3) := by decide +kernel
theorem dX6_priceOf_7 : decode cX6_priceOf 7 = .ok (.getfield 56, 3) := by decide +kernel
theorem dX6_priceOf_10 : decode cX6_priceOf 10 = .ok (.if_icmp .ge 29, 3) := by decide +kernel
theorem dX6_priceOf_13 : decode cX6_priceOf 13 = .ok (.aload_n 0, 1) := by decide +kernel
theorem dX6_priceOf_14 : decode cX6_priceOf 14 = .ok (.getfield 15, 3) := by decide +kernel
theorem dX6_priceOf_17 : decode cX6_priceOf 17 = .ok (.iload_n 2, 1) := by decide +kernel
theorem dX6_priceOf_18 : decode cX6_priceOf 18 = .ok (.baload, 1) := by decide +kernel
theorem dX6_priceOf_19 : decode cX6_priceOf 19 = .ok (.ifCond .eq 14, 3) := by decide +kernel
theorem dX6_priceOf_22 : decode cX6_priceOf 22 = .ok (.aload_n 0, 1) := by decide +kernel
theorem dX6_priceOf_23 : decode cX6_priceOf 23 = .ok (.getfield 23, 3) := by decide +kernel
theorem dX6_priceOf_26 : decode cX6_priceOf 26 = .ok (.iload_n 2, 1) := by decide +kernel
theorem dX6_priceOf_27 : decode cX6_priceOf 27 = .ok (.iconst 5, 1) := by decide +kernel
theorem dX6_priceOf_28 : decode cX6_priceOf 28 = .ok (.imul, 1) := by decide +kernel
theorem dX6_priceOf_29 : decode cX6_priceOf 29 = .ok (.iload_n 1, 1) := by decide +kernel
theorem dX6_priceOf_30 : decode cX6_priceOf 30 = .ok (.iadd, 1) := by decide +kernel
theorem dX6_priceOf_31 : decode cX6_priceOf 31 = .ok (.iaload, 1) := by decide +kernel
theorem dX6_priceOf_32 : decode cX6_priceOf 32 = .ok (.ireturn, 1) := by decide +kernel
theorem dX6_priceOf_33 : decode cX6_priceOf 33 = .ok (.iinc 2 1, 3) := by decide +kernel
theorem dX6_priceOf_36 : decode cX6_priceOf 36 = .ok (.goto (-34), 3) := by decide +kernel
theorem dX6_priceOf_39 : decode cX6_priceOf 39 = .ok (.iconst 0, 1) := by decide +kernel
theorem dX6_priceOf_40 : decode cX6_priceOf 40 = .ok (.ireturn, 1) := by decide +kernel
theorem dX6_leastRound_0 : decode cX6_leastRound 0 = .ok (.iconst 0, 1) := by decide +kernel
theorem dX6_leastRound_1 : decode cX6_leastRound 1 = .ok (.istore_n 1, 1) := by decide +kernel
theorem dX6_leastRound_2 : decode cX6_leastRound 2 = .ok (.iconst 0, 1) := by decide +kernel
theorem dX6_leastRound_3 : decode cX6_leastRound 3 = .ok (.istore_n 2, 1) := by decide +kernel
theorem dX6_leastRound_4 : decode cX6_leastRound 4 = .ok (.iload_n 2, 1) := by decide +kernel
theorem dX6_leastRound_5 : decode cX6_leastRound 5 = .ok (.aload_n 0, 1) := by decide +kernel
theorem dX6_leastRound_6 : decode cX6_leastRound 6 = .ok (.getfield 9, 3) := by decide +kernel
theorem dX6_leastRound_9 : decode cX6_leastRound 9 = .ok (.getfield 56, 3) := by decide +kernel
theorem dX6_leastRound_12 : decode cX6_leastRound 12 = .ok (.if_icmp .ge 28, 3) := by decide +kernel
theorem dX6_leastRound_15 : decode cX6_leastRound 15 = .ok (.aload_n 0, 1) := by decide +kernel
theorem dX6_leastRound_16 : decode cX6_leastRound 16 = .ok (.getfield 15, 3) := by decide +kernel
theorem dX6_leastRound_19 : decode cX6_leastRound 19 = .ok (.iload_n 2, 1) := by decide +kernel
theorem dX6_leastRound_20 : decode cX6_leastRound 20 = .ok (.baload, 1) := by decide +kernel
theorem dX6_leastRound_21 : decode cX6_leastRound 21 = .ok (.ifCond .eq 13, 3) := by decide +kernel
theorem dX6_leastRound_24 : decode cX6_leastRound 24 = .ok (.iload_n 1, 1) := by decide +kernel
theorem dX6_leastRound_25 : decode cX6_leastRound 25 = .ok (.aload_n 0, 1) := by decide +kernel
theorem dX6_leastRound_26 : decode cX6_leastRound 26 = .ok (.iload_n 2, 1) := by decide +kernel
theorem dX6_leastRound_27 : decode cX6_leastRound 27 = .ok (.invokevirtual 78, 3) := by decide +kernel
theorem dX6_leastRound_30 : decode cX6_leastRound 30 = .ok (.invokestatic 81, 3) := by decide +kernel
theorem dX6_leastRound_33 : decode cX6_leastRound 33 = .ok (.istore_n 1, 1) := by decide +kernel
theorem dX6_leastRound_34 : decode cX6_leastRound 34 = .ok (.iinc 2 1, 3) := by decide +kernel
theorem dX6_leastRound_37 : decode cX6_leastRound 37 = .ok (.goto (-33), 3) := by decide +kernel
theorem dX6_leastRound_40 : decode cX6_leastRound 40 = .ok (.iload_n 1, 1) := by decide +kernel
theorem dX6_leastRound_41 : decode cX6_leastRound 41 = .ok (.ireturn, 1) := by decide +kernel
theorem dX6_leastRoundFrom_0 : decode cX6_leastRoundFrom 0 = .ok (.aload_n 0, 1) := by decide +kernel
theorem dX6_leastRoundFrom_1 : decode cX6_leastRoundFrom 1 = .ok (.getfield 26, 3) := by decide +kernel
theorem dX6_leastRoundFrom_4 : decode cX6_leastRoundFrom 4 = .ok (.ldc 45, 2) := by decide +kernel
theorem dX6_leastRoundFrom_6 : decode cX6_leastRoundFrom 6 = .ok (.invokestatic 46, 3) := by decide +kernel
theorem dX6_leastRoundFrom_9 : decode cX6_leastRoundFrom 9 = .ok (.aload_n 0, 1) := by decide +kernel
theorem dX6_leastRoundFrom_10 : decode cX6_leastRoundFrom 10 = .ok (.getfield 26, 3) := by decide +kernel
theorem dX6_leastRoundFrom_13 : decode cX6_leastRoundFrom 13 = .ok (.iconst 1, 1) := by decide +kernel
theorem dX6_leastRoundFrom_14 : decode cX6_leastRoundFrom 14 = .ok (.iload_n 1, 1) := by decide +kernel
theorem dX6_leastRoundFrom_15 : decode cX6_leastRoundFrom 15 = .ok (.ishl, 1) := by decide +kernel
theorem dX6_leastRoundFrom_16 : decode cX6_leastRoundFrom 16 = .ok (.iconst 5, 1) := by decide +kernel
theorem dX6_leastRoundFrom_17 : decode cX6_leastRoundFrom 17 = .ok (.imul, 1) := by decide +kernel
theorem dX6_leastRoundFrom_18 : decode cX6_leastRoundFrom 18 = .ok (.iload_n 1, 1) := by decide +kernel
theorem dX6_leastRoundFrom_19 : decode cX6_leastRoundFrom 19 = .ok (.iadd, 1) := by decide +kernel
theorem dX6_leastRoundFrom_20 : decode cX6_leastRoundFrom 20 = .ok (.iconst 0, 1) := by decide +kernel
theorem dX6_leastRoundFrom_21 : decode cX6_leastRoundFrom 21 = .ok (.iastore, 1) := by decide +kernel
theorem dX6_leastRoundFrom_22 : decode cX6_leastRoundFrom 22 = .ok (.iconst 0, 1) := by decide +kernel
theorem dX6_leastRoundFrom_23 : decode cX6_leastRoundFrom 23 = .ok (.istore_n 2, 1) := by decide +kernel
theorem dX6_leastRoundFrom_24 : decode cX6_leastRoundFrom 24 = .ok (.iconst 1, 1) := by decide +kernel
theorem dX6_leastRoundFrom_25 : decode cX6_leastRoundFrom 25 = .ok (.iload_n 1, 1) := by decide +kernel
theorem dX6_leastRoundFrom_26 : decode cX6_leastRoundFrom 26 = .ok (.ishl, 1) := by decide +kernel
theorem dX6_leastRoundFrom_27 : decode cX6_leastRoundFrom 27 = .ok (.istore_n 3, 1) := by decide +kernel
theorem dX6_leastRoundFrom_28 : decode cX6_leastRoundFrom 28 = .ok (.iload_n 3, 1) := by decide +kernel
theorem dX6_leastRoundFrom_29 : decode cX6_leastRoundFrom 29 = .ok (.iconst 1, 1) := by decide +kernel
theorem dX6_leastRoundFrom_30 : decode cX6_leastRoundFrom 30 = .ok (.aload_n 0, 1) := by decide +kernel
theorem dX6_leastRoundFrom_31 : decode cX6_leastRoundFrom 31 = .ok (.getfield 9, 3) := by decide +kernel
theorem dX6_leastRoundFrom_34 : decode cX6_leastRoundFrom 34 = .ok (.getfield 56, 3) := by decide +kernel
theorem dX6_leastRoundFrom_37 : decode cX6_leastRoundFrom 37 = .ok (.ishl, 1) := by decide +kernel
theorem dX6_leastRoundFrom_38 : decode cX6_leastRoundFrom 38 = .ok (.if_icmp .ge 73, 3) := by decide +kernel
theorem dX6_leastRoundFrom_41 : decode cX6_leastRoundFrom 41 = .ok (.iload_n 1, 1) := by decide +kernel
theorem dX6_leastRoundFrom_42 : decode cX6_leastRoundFrom 42 = .ok (.istore 4, 2) := by decide +kernel
theorem dX6_leastRoundFrom_44 : decode cX6_leastRoundFrom 44 = .ok (.iload 4, 2) := by decide +kernel
theorem dX6_leastRoundFrom_46 : decode cX6_leastRoundFrom 46 = .ok (.aload_n 0, 1) := by decide +kernel
theorem dX6_leastRoundFrom_47 : decode cX6_leastRoundFrom 47 = .ok (.getfield 9, 3) := by decide +kernel
theorem dX6_leastRoundFrom_50 : decode cX6_leastRoundFrom 50 = .ok (.getfield 56, 3) := by decide +kernel
theorem dX6_leastRoundFrom_53 : decode cX6_leastRoundFrom 53 = .ok (.if_icmp .ge 52, 3) := by decide +kernel
theorem dX6_leastRoundFrom_56 : decode cX6_leastRoundFrom 56 = .ok (.aload_n 0, 1) := by decide +kernel
theorem dX6_leastRoundFrom_57 : decode cX6_leastRoundFrom 57 = .ok (.getfield 26, 3) := by decide +kernel
theorem dX6_leastRoundFrom_60 : decode cX6_leastRoundFrom 60 = .ok (.iload_n 3, 1) := by decide +kernel
theorem dX6_leastRoundFrom_61 : decode cX6_leastRoundFrom 61 = .ok (.iconst 5, 1) := by decide +kernel
theorem dX6_leastRoundFrom_62 : decode cX6_leastRoundFrom 62 = .ok (.imul, 1) := by decide +kernel
theorem dX6_leastRoundFrom_63 : decode cX6_leastRoundFrom 63 = .ok (.iload 4, 2) := by decide +kernel
theorem dX6_leastRoundFrom_65 : decode cX6_leastRoundFrom 65 = .ok (.iadd, 1) := by decide +kernel
theorem dX6_leastRoundFrom_66 : decode cX6_leastRoundFrom 66 = .ok (.iaload, 1) := by decide +kernel
theorem dX6_leastRoundFrom_67 : decode cX6_leastRoundFrom 67 = .ok (.istore 5, 2) := by decide +kernel
theorem dX6_leastRoundFrom_69 : decode cX6_leastRoundFrom 69 = .ok (.iload 5, 2) := by decide +kernel
theorem dX6_leastRoundFrom_71 : decode cX6_leastRoundFrom 71 = .ok (.ldc 45, 2) := by decide +kernel
theorem dX6_leastRoundFrom_73 : decode cX6_leastRoundFrom 73 = .ok (.if_icmp .ge 26, 3) := by decide +kernel
theorem dX6_leastRoundFrom_76 : decode cX6_leastRoundFrom 76 = .ok (.iload_n 2, 1) := by decide +kernel
theorem dX6_leastRoundFrom_77 : decode cX6_leastRoundFrom 77 = .ok (.iload 5, 2) := by decide +kernel
theorem dX6_leastRoundFrom_79 : decode cX6_leastRoundFrom 79 = .ok (.aload_n 0, 1) := by decide +kernel
theorem dX6_leastRoundFrom_80 : decode cX6_leastRoundFrom 80 = .ok (.iload 4, 2) := by decide +kernel
theorem dX6_leastRoundFrom_82 : decode cX6_leastRoundFrom 82 = .ok (.iload_n 1, 1) := by decide +kernel
theorem dX6_leastRoundFrom_83 : decode cX6_leastRoundFrom 83 = .ok (.invokevirtual 63, 3) := by decide +kernel
theorem dX6_leastRoundFrom_86 : decode cX6_leastRoundFrom 86 = .ok (.iadd, 1) := by decide +kernel
theorem dX6_leastRoundFrom_87 : decode cX6_leastRoundFrom 87 = .ok (.invokestatic 81, 3) := by decide +kernel
theorem dX6_leastRoundFrom_90 : decode cX6_leastRoundFrom 90 = .ok (.istore_n 2, 1) := by decide +kernel
theorem dX6_leastRoundFrom_91 : decode cX6_leastRoundFrom 91 = .ok (.aload_n 0, 1) := by decide +kernel
theorem dX6_leastRoundFrom_92 : decode cX6_leastRoundFrom 92 = .ok (.iload_n 3, 1) := by decide +kernel
theorem dX6_leastRoundFrom_93 : decode cX6_leastRoundFrom 93 = .ok (.iload 4, 2) := by decide +kernel
theorem dX6_leastRoundFrom_95 : decode cX6_leastRoundFrom 95 = .ok (.iload_n 1, 1) := by decide +kernel
theorem dX6_leastRoundFrom_96 : decode cX6_leastRoundFrom 96 = .ok (.invokevirtual 86, 3) := by decide +kernel
theorem dX6_leastRoundFrom_99 : decode cX6_leastRoundFrom 99 = .ok (.iinc 4 1, 3) := by decide +kernel
theorem dX6_leastRoundFrom_102 : decode cX6_leastRoundFrom 102 = .ok (.goto (-58), 3) := by decide +kernel
theorem dX6_leastRoundFrom_105 : decode cX6_leastRoundFrom 105 = .ok (.iinc 3 1, 3) := by decide +kernel
theorem dX6_leastRoundFrom_108 : decode cX6_leastRoundFrom 108 = .ok (.goto (-80), 3) := by decide +kernel
theorem dX6_leastRoundFrom_111 : decode cX6_leastRoundFrom 111 = .ok (.iload_n 2, 1) := by decide +kernel
theorem dX6_leastRoundFrom_112 : decode cX6_leastRoundFrom 112 = .ok (.ireturn, 1) := by decide +kernel
theorem dX6_goOn_0 : decode cX6_goOn 0 = .ok (.aload_n 0, 1) := by decide +kernel
theorem dX6_goOn_1 : decode cX6_goOn 1 = .ok (.getfield 26, 3) := by decide +kernel
theorem dX6_goOn_4 : decode cX6_goOn 4 = .ok (.iload_n 1, 1) := by decide +kernel
theorem dX6_goOn_5 : decode cX6_goOn 5 = .ok (.iconst 5, 1) := by decide +kernel
theorem dX6_goOn_6 : decode cX6_goOn 6 = .ok (.imul, 1) := by decide +kernel
theorem dX6_goOn_7 : decode cX6_goOn 7 = .ok (.iload_n 2, 1) := by decide +kernel
theorem dX6_goOn_8 : decode cX6_goOn 8 = .ok (.iadd, 1) := by decide +kernel
theorem dX6_goOn_9 : decode cX6_goOn 9 = .ok (.iaload, 1) := by decide +kernel
theorem dX6_goOn_10 : decode cX6_goOn 10 = .ok (.istore 4, 2) := by decide +kernel
theorem dX6_goOn_12 : decode cX6_goOn 12 = .ok (.iload_n 3, 1) := by decide +kernel
theorem dX6_goOn_13 : decode cX6_goOn 13 = .ok (.iconst 1, 1) := by decide +kernel
theorem dX6_goOn_14 : decode cX6_goOn 14 = .ok (.iadd, 1) := by decide +kernel
theorem dX6_goOn_15 : decode cX6_goOn 15 = .ok (.istore 5, 2) := by decide +kernel
theorem dX6_goOn_17 : decode cX6_goOn 17 = .ok (.iload 5, 2) := by decide +kernel
theorem dX6_goOn_19 : decode cX6_goOn 19 = .ok (.aload_n 0, 1) := by decide +kernel
theorem dX6_goOn_20 : decode cX6_goOn 20 = .ok (.getfield 9, 3) := by decide +kernel
theorem dX6_goOn_23 : decode cX6_goOn 23 = .ok (.getfield 56, 3) := by decide +kernel
theorem dX6_goOn_26 : decode cX6_goOn 26 = .ok (.if_icmp .ge 68, 3) := by decide +kernel
theorem dX6_goOn_29 : decode cX6_goOn 29 = .ok (.aload_n 0, 1) := by decide +kernel
theorem dX6_goOn_30 : decode cX6_goOn 30 = .ok (.getfield 15, 3) := by decide +kernel
theorem dX6_goOn_33 : decode cX6_goOn 33 = .ok (.iload 5, 2) := by decide +kernel
theorem dX6_goOn_35 : decode cX6_goOn 35 = .ok (.baload, 1) := by decide +kernel
theorem dX6_goOn_36 : decode cX6_goOn 36 = .ok (.ifCond .eq 52, 3) := by decide +kernel
theorem dX6_goOn_39 : decode cX6_goOn 39 = .ok (.iload_n 1, 1) := by decide +kernel
theorem dX6_goOn_40 : decode cX6_goOn 40 = .ok (.iload 5, 2) := by decide +kernel
theorem dX6_goOn_42 : decode cX6_goOn 42 = .ok (.ishr, 1) := by decide +kernel
theorem dX6_goOn_43 : decode cX6_goOn 43 = .ok (.iconst 1, 1) := by decide +kernel
theorem dX6_goOn_44 : decode cX6_goOn 44 = .ok (.iand, 1) := by decide +kernel
theorem dX6_goOn_45 : decode cX6_goOn 45 = .ok (.ifCond .ne 43, 3) := by decide +kernel
theorem dX6_goOn_48 : decode cX6_goOn 48 = .ok (.iload_n 1, 1) := by decide +kernel
theorem dX6_goOn_49 : decode cX6_goOn 49 = .ok (.iconst 1, 1) := by decide +kernel
theorem dX6_goOn_50 : decode cX6_goOn 50 = .ok (.iload 5, 2) := by decide +kernel
theorem dX6_goOn_52 : decode cX6_goOn 52 = .ok (.ishl, 1) := by decide +kernel
theorem dX6_goOn_53 : decode cX6_goOn 53 = .ok (.ior, 1) := by decide +kernel
theorem dX6_goOn_54 : decode cX6_goOn 54 = .ok (.iconst 5, 1) := by decide +kernel
theorem dX6_goOn_55 : decode cX6_goOn 55 = .ok (.imul, 1) := by decide +kernel
theorem dX6_goOn_56 : decode cX6_goOn 56 = .ok (.iload 5, 2) := by decide +kernel
theorem dX6_goOn_58 : decode cX6_goOn 58 = .ok (.iadd, 1) := by decide +kernel
theorem dX6_goOn_59 : decode cX6_goOn 59 = .ok (.istore 6, 2) := by decide +kernel
theorem dX6_goOn_61 : decode cX6_goOn 61 = .ok (.aload_n 0, 1) := by decide +kernel
theorem dX6_goOn_62 : decode cX6_goOn 62 = .ok (.getfield 26, 3) := by decide +kernel
theorem dX6_goOn_65 : decode cX6_goOn 65 = .ok (.iload 6, 2) := by decide +kernel
theorem dX6_goOn_67 : decode cX6_goOn 67 = .ok (.aload_n 0, 1) := by decide +kernel
theorem dX6_goOn_68 : decode cX6_goOn 68 = .ok (.getfield 26, 3) := by decide +kernel
theorem dX6_goOn_71 : decode cX6_goOn 71 = .ok (.iload 6, 2) := by decide +kernel
theorem dX6_goOn_73 : decode cX6_goOn 73 = .ok (.iaload, 1) := by decide +kernel
theorem dX6_goOn_74 : decode cX6_goOn 74 = .ok (.iload 4, 2) := by decide +kernel
theorem dX6_goOn_76 : decode cX6_goOn 76 = .ok (.aload_n 0, 1) := by decide +kernel
theorem dX6_goOn_77 : decode cX6_goOn 77 = .ok (.iload_n 2, 1) := by decide +kernel
theorem dX6_goOn_78 : decode cX6_goOn 78 = .ok (.iload 5, 2) := by decide +kernel
theorem dX6_goOn_80 : decode cX6_goOn 80 = .ok (.invokevirtual 63, 3) := by decide +kernel
theorem dX6_goOn_83 : decode cX6_goOn 83 = .ok (.iadd, 1) := by decide +kernel
theorem dX6_goOn_84 : decode cX6_goOn 84 = .ok (.invokestatic 81, 3) := by decide +kernel
theorem dX6_goOn_87 : decode cX6_goOn 87 = .ok (.iastore, 1) := by decide +kernel
theorem dX6_goOn_88 : decode cX6_goOn 88 = .ok (.iinc 5 1, 3) := by decide +kernel
theorem dX6_goOn_91 : decode cX6_goOn 91 = .ok (.goto (-74), 3) := by decide +kernel
theorem dX6_goOn_94 : decode cX6_goOn 94 = .ok (.return_, 1) := by decide +kernel
theorem dX7_init_0 : decode cX7_init 0 = .ok (.aload_n 0, 1) := by decide +kernel
theorem dX7_init_1 : decode cX7_init 1 = .ok (.iload_n 1, 1) := by decide +kernel
theorem dX7_init_2 : decode cX7_init 2 = .ok (.aload_n 2, 1) := by decide +kernel
theorem dX7_init_3 : decode cX7_init 3 = .ok (.invokespecial 3, 3) := by decide +kernel
theorem dX7_init_6 : decode cX7_init 6 = .ok (.aload_n 0, 1) := by decide +kernel
theorem dX7_init_7 : decode cX7_init 7 = .ok (.iconst 5, 1) := by decide +kernel
theorem dX7_init_8 : decode cX7_init 8 = .ok (.newarray .int, 2) := by decide +kernel
theorem dX7_init_10 : decode cX7_init 10 = .ok (.putfield 9, 3) := by decide +kernel
theorem dX7_init_13 : decode cX7_init 13 = .ok (.aload_n 0, 1) := by decide +kernel
theorem dX7_init_14 : decode cX7_init 14 = .ok (.iconst 4, 1) := by decide +kernel
theorem dX7_init_15 : decode cX7_init 15 = .ok (.newarray .int, 2) := by decide +kernel
theorem dX7_init_17 : decode cX7_init 17 = .ok (.putfield 15, 3) := by decide +kernel
theorem dX7_init_20 : decode cX7_init 20 = .ok (.aload_n 0, 1) := by decide +kernel
theorem dX7_init_21 : decode cX7_init 21 = .ok (.iconst 5, 1) := by decide +kernel
theorem dX7_init_22 : decode cX7_init 22 = .ok (.newarray .int, 2) := by decide +kernel
theorem dX7_init_24 : decode cX7_init 24 = .ok (.putfield 18, 3) := by decide +kernel
theorem dX7_init_27 : decode cX7_init 27 = .ok (.aload_n 0, 1) := by decide +kernel
theorem dX7_init_28 : decode cX7_init 28 = .ok (.getfield 15, 3) := by decide +kernel
theorem dX7_init_31 : decode cX7_init 31 = .ok (.iconst 1, 1) := by decide +kernel
theorem dX7_init_32 : decode cX7_init 32 = .ok (.invokestatic 21, 3) := by decide +kernel
theorem dX7_init_35 : decode cX7_init 35 = .ok (.aload_n 0, 1) := by decide +kernel
theorem dX7_init_36 : decode cX7_init 36 = .ok (.getfield 27, 3) := by decide +kernel
theorem dX7_init_39 : decode cX7_init 39 = .ok (.iconst (-1), 1) := by decide +kernel
theorem dX7_init_40 : decode cX7_init 40 = .ok (.invokestatic 21, 3) := by decide +kernel
theorem dX7_init_43 : decode cX7_init 43 = .ok (.return_, 1) := by decide +kernel
theorem dX7_settle_0 : decode cX7_settle 0 = .ok (.aload_n 0, 1) := by decide +kernel
theorem dX7_settle_1 : decode cX7_settle 1 = .ok (.getfield 27, 3) := by decide +kernel
theorem dX7_settle_4 : decode cX7_settle 4 = .ok (.iload_n 1, 1) := by decide +kernel
theorem dX7_settle_5 : decode cX7_settle 5 = .ok (.iaload, 1) := by decide +kernel
theorem dX7_settle_6 : decode cX7_settle 6 = .ok (.iconst (-1), 1) := by decide +kernel
theorem dX7_settle_7 : decode cX7_settle 7 = .ok (.if_icmp .ne 8, 3) := by decide +kernel
theorem dX7_settle_10 : decode cX7_settle 10 = .ok (.aload_n 0, 1) := by decide +kernel
theorem dX7_settle_11 : decode cX7_settle 11 = .ok (.iload_n 1, 1) := by decide +kernel
theorem dX7_settle_12 : decode cX7_settle 12 = .ok (.invokevirtual 30, 3) := by decide +kernel
theorem dX7_settle_15 : decode cX7_settle 15 = .ok (.return_, 1) := by decide +kernel
theorem dX7_changeEnd_0 : decode cX7_changeEnd 0 = .ok (.bipush (-4), 2) := by decide +kernel
theorem dX7_changeEnd_2 : decode cX7_changeEnd 2 = .ok (.ireturn, 1) := by decide +kernel
theorem dX7_changePayment_0 : decode cX7_changePayment 0 = .ok (.bipush (-4), 2) := by decide +kernel
theorem dX7_changePayment_2 : decode cX7_changePayment 2 = .ok (.ireturn, 1) := by decide +kernel
theorem dX7_changeGift_0 : decode cX7_changeGift 0 = .ok (.aload_n 0, 1) := by decide +kernel
theorem dX7_changeGift_1 : decode cX7_changeGift 1 = .ok (.aload_n 0, 1) := by decide +kernel
theorem dX7_changeGift_2 : decode cX7_changeGift 2 = .ok (.getfield 9, 3) := by decide +kernel
theorem dX7_changeGift_5 : decode cX7_changeGift 5 = .ok (.iload_n 1, 1) := by decide +kernel
theorem dX7_changeGift_6 : decode cX7_changeGift 6 = .ok (.iload_n 2, 1) := by decide +kernel
theorem dX7_changeGift_7 : decode cX7_changeGift 7 = .ok (.invokevirtual 34, 3) := by decide +kernel
theorem dX7_changeGift_10 : decode cX7_changeGift 10 = .ok (.ireturn, 1) := by decide +kernel
theorem dX7_changeWeight_0 : decode cX7_changeWeight 0 = .ok (.aload_n 0, 1) := by decide +kernel
theorem dX7_changeWeight_1 : decode cX7_changeWeight 1 = .ok (.aload_n 0, 1) := by decide +kernel
theorem dX7_changeWeight_2 : decode cX7_changeWeight 2 = .ok (.getfield 15, 3) := by decide +kernel
theorem dX7_changeWeight_5 : decode cX7_changeWeight 5 = .ok (.iload_n 1, 1) := by decide +kernel
theorem dX7_changeWeight_6 : decode cX7_changeWeight 6 = .ok (.iload_n 2, 1) := by decide +kernel
theorem dX7_changeWeight_7 : decode cX7_changeWeight 7 = .ok (.invokevirtual 34, 3) := by decide +kernel
theorem dX7_changeWeight_10 : decode cX7_changeWeight 10 = .ok (.ireturn, 1) := by decide +kernel
theorem dX7_change_0 : decode cX7_change 0 = .ok (.aload_n 1, 1) := by decide +kernel
theorem dX7_change_1 : decode cX7_change 1 = .ok (.iload_n 2, 1) := by decide +kernel
theorem dX7_change_2 : decode cX7_change 2 = .ok (.iaload, 1) := by decide +kernel
theorem dX7_change_3 : decode cX7_change 3 = .ok (.iload_n 3, 1) := by decide +kernel
theorem dX7_change_4 : decode cX7_change 4 = .ok (.if_icmp .ne 5, 3) := by decide +kernel
theorem dX7_change_7 : decode cX7_change 7 = .ok (.iconst 0, 1) := by decide +kernel
theorem dX7_change_8 : decode cX7_change 8 = .ok (.ireturn, 1) := by decide +kernel
theorem dX7_change_9 : decode cX7_change 9 = .ok (.aload_n 1, 1) := by decide +kernel
theorem dX7_change_10 : decode cX7_change 10 = .ok (.iload_n 2, 1) := by decide +kernel
theorem dX7_change_11 : decode cX7_change 11 = .ok (.iload_n 3, 1) := by decide +kernel
theorem dX7_change_12 : decode cX7_change 12 = .ok (.iastore, 1) := by decide +kernel
theorem dX7_change_13 : decode cX7_change 13 = .ok (.aload_n 0, 1) := by decide +kernel
theorem dX7_change_14 : decode cX7_change 14 = .ok (.getfield 27, 3) := by decide +kernel
theorem dX7_change_17 : decode cX7_change 17 = .ok (.iconst (-1), 1) := by decide +kernel
theorem dX7_change_18 : decode cX7_change 18 = .ok (.invokestatic 21, 3) := by decide +kernel
theorem dX7_change_21 : decode cX7_change 21 = .ok (.iconst 1, 1) := by decide +kernel
theorem dX7_change_22 : decode cX7_change 22 = .ok (.ireturn, 1) := by decide +kernel
theorem dX7_workOut_0 : decode cX7_workOut 0 = .ok (.aload_n 0, 1) := by decide +kernel
theorem dX7_workOut_1 : decode cX7_workOut 1 = .ok (.iload_n 1, 1) := by decide +kernel
theorem dX7_workOut_2 : decode cX7_workOut 2 = .ok (.invokevirtual 38, 3) := by decide +kernel
theorem dX7_workOut_5 : decode cX7_workOut 5 = .ok (.iconst 0, 1) := by decide +kernel
theorem dX7_workOut_6 : decode cX7_workOut 6 = .ok (.istore_n 2, 1) := by decide +kernel
theorem dX7_workOut_7 : decode cX7_workOut 7 = .ok (.iconst 1, 1) := by decide +kernel
theorem dX7_workOut_8 : decode cX7_workOut 8 = .ok (.istore_n 3, 1) := by decide +kernel
theorem dX7_workOut_9 : decode cX7_workOut 9 = .ok (.iload_n 3, 1) := by decide +kernel
theorem dX7_workOut_10 : decode cX7_workOut 10 = .ok (.aload_n 0, 1) := by decide +kernel
theorem dX7_workOut_11 : decode cX7_workOut 11 = .ok (.getfield 41, 3) := by decide +kernel
theorem dX7_workOut_14 : decode cX7_workOut 14 = .ok (.getfield 45, 3) := by decide +kernel
theorem dX7_workOut_17 : decode cX7_workOut 17 = .ok (.if_icmp .ge 26, 3) := by decide +kernel
theorem dX7_workOut_20 : decode cX7_workOut 20 = .ok (.aload_n 0, 1) := by decide +kernel
theorem dX7_workOut_21 : decode cX7_workOut 21 = .ok (.getfield 18, 3) := by decide +kernel
theorem dX7_workOut_24 : decode cX7_workOut 24 = .ok (.iload_n 3, 1) := by decide +kernel
theorem dX7_workOut_25 : decode cX7_workOut 25 = .ok (.iaload, 1) := by decide +kernel
theorem dX7_workOut_26 : decode cX7_workOut 26 = .ok (.aload_n 0, 1) := by decide +kernel
theorem dX7_workOut_27 : decode cX7_workOut 27 = .ok (.getfield 18, 3) := by decide +kernel
theorem dX7_workOut_30 : decode cX7_workOut 30 = .ok (.iload_n 2, 1) := by decide +kernel
theorem dX7_workOut_31 : decode cX7_workOut 31 = .ok (.iaload, 1) := by decide +kernel
theorem dX7_workOut_32 : decode cX7_workOut 32 = .ok (.if_icmp .le 5, 3) := by decide +kernel
theorem dX7_workOut_35 : decode cX7_workOut 35 = .ok (.iload_n 3, 1) := by decide +kernel
theorem dX7_workOut_36 : decode cX7_workOut 36 = .ok (.istore_n 2, 1) := by decide +kernel
theorem dX7_workOut_37 : decode cX7_workOut 37 = .ok (.iinc 3 1, 3) := by decide +kernel
theorem dX7_workOut_40 : decode cX7_workOut 40 = .ok (.goto (-31), 3) := by decide +kernel
theorem dX7_workOut_43 : decode cX7_workOut 43 = .ok (.iconst 0, 1) := by decide +kernel
theorem dX7_workOut_44 : decode cX7_workOut 44 = .ok (.istore_n 3, 1) := by decide +kernel
theorem dX7_workOut_45 : decode cX7_workOut 45 = .ok (.iload_n 3, 1) := by decide +kernel
theorem dX7_workOut_46 : decode cX7_workOut 46 = .ok (.aload_n 0, 1) := by decide +kernel
theorem dX7_workOut_47 : decode cX7_workOut 47 = .ok (.getfield 41, 3) := by decide +kernel
theorem dX7_workOut_50 : decode cX7_workOut 50 = .ok (.getfield 51, 3) := by decide +kernel
theorem dX7_workOut_53 : decode cX7_workOut 53 = .ok (.if_icmp .ge 49, 3) := by decide +kernel
theorem dX7_workOut_56 : decode cX7_workOut 56 = .ok (.aload_n 0, 1) := by decide +kernel
theorem dX7_workOut_57 : decode cX7_workOut 57 = .ok (.aload_n 0, 1) := by decide +kernel
theorem dX7_workOut_58 : decode cX7_workOut 58 = .ok (.getfield 41, 3) := by decide +kernel
theorem dX7_workOut_61 : decode cX7_workOut 61 = .ok (.iload_n 1, 1) := by decide +kernel
theorem dX7_workOut_62 : decode cX7_workOut 62 = .ok (.iload_n 3, 1) := by decide +kernel
theorem dX7_workOut_63 : decode cX7_workOut 63 = .ok (.invokevirtual 54, 3) := by decide +kernel
theorem dX7_workOut_66 : decode cX7_workOut 66 = .ok (.aload_n 0, 1) := by decide +kernel
theorem dX7_workOut_67 : decode cX7_workOut 67 = .ok (.getfield 15, 3) := by decide +kernel
theorem dX7_workOut_70 : decode cX7_workOut 70 = .ok (.iload_n 3, 1) := by decide +kernel
theorem dX7_workOut_71 : decode cX7_workOut 71 = .ok (.iaload, 1) := by decide +kernel
theorem dX7_workOut_72 : decode cX7_workOut 72 = .ok (.iload_n 2, 1) := by decide +kernel
theorem dX7_workOut_73 : decode cX7_workOut 73 = .ok (.invokevirtual 58, 3) := by decide +kernel
theorem dX7_workOut_76 : decode cX7_workOut 76 = .ok (.istore 4, 2) := by decide +kernel
theorem dX7_workOut_78 : decode cX7_workOut 78 = .ok (.aload_n 0, 1) := by decide +kernel
theorem dX7_workOut_79 : decode cX7_workOut 79 = .ok (.getfield 62, 3) := by decide +kernel
theorem dX7_workOut_82 : decode cX7_workOut 82 = .ok (.iload_n 1, 1) := by decide +kernel
theorem dX7_workOut_83 : decode cX7_workOut 83 = .ok (.aload_n 0, 1) := by decide +kernel
theorem dX7_workOut_84 : decode cX7_workOut 84 = .ok (.getfield 41, 3) := by decide +kernel
theorem dX7_workOut_87 : decode cX7_workOut 87 = .ok (.getfield 51, 3) := by decide +kernel
theorem dX7_workOut_90 : decode cX7_workOut 90 = .ok (.imul, 1) := by decide +kernel
theorem dX7_workOut_91 : decode cX7_workOut 91 = .ok (.iload_n 3, 1) := by decide +kernel
theorem dX7_workOut_92 : decode cX7_workOut 92 = .ok (.iadd, 1) := by decide +kernel
theorem dX7_workOut_93 : decode cX7_workOut 93 = .ok (.iload 4, 2) := by decide +kernel
theorem dX7_workOut_95 : decode cX7_workOut 95 = .ok (.iastore, 1) := by decide +kernel
theorem dX7_workOut_96 : decode cX7_workOut 96 = .ok (.iinc 3 1, 3) := by decide +kernel
theorem dX7_workOut_99 : decode cX7_workOut 99 = .ok (.goto (-54), 3) := by decide +kernel
theorem dX7_workOut_102 : decode cX7_workOut 102 = .ok (.aload_n 0, 1) := by decide +kernel
theorem dX7_workOut_103 : decode cX7_workOut 103 = .ok (.getfield 27, 3) := by decide +kernel
theorem dX7_workOut_106 : decode cX7_workOut 106 = .ok (.iload_n 1, 1) := by decide +kernel
theorem dX7_workOut_107 : decode cX7_workOut 107 = .ok (.iload_n 2, 1) := by decide +kernel
theorem dX7_workOut_108 : decode cX7_workOut 108 = .ok (.iastore, 1) := by decide +kernel
theorem dX7_workOut_109 : decode cX7_workOut 109 = .ok (.return_, 1) := by decide +kernel
theorem dX7_addUp_0 : decode cX7_addUp 0 = .ok (.iconst 0, 1) := by decide +kernel
theorem dX7_addUp_1 : decode cX7_addUp 1 = .ok (.istore_n 2, 1) := by decide +kernel
theorem dX7_addUp_2 : decode cX7_addUp 2 = .ok (.iload_n 2, 1) := by decide +kernel
theorem dX7_addUp_3 : decode cX7_addUp 3 = .ok (.aload_n 0, 1) := by decide +kernel
theorem dX7_addUp_4 : decode cX7_addUp 4 = .ok (.getfield 41, 3) := by decide +kernel
theorem dX7_addUp_7 : decode cX7_addUp 7 = .ok (.getfield 45, 3) := by decide +kernel
theorem dX7_addUp_10 : decode cX7_addUp 10 = .ok (.if_icmp .ge 21, 3) := by decide +kernel
theorem dX7_addUp_13 : decode cX7_addUp 13 = .ok (.aload_n 0, 1) := by decide +kernel
theorem dX7_addUp_14 : decode cX7_addUp 14 = .ok (.getfield 18, 3) := by decide +kernel
theorem dX7_addUp_17 : decode cX7_addUp 17 = .ok (.iload_n 2, 1) := by decide +kernel
theorem dX7_addUp_18 : decode cX7_addUp 18 = .ok (.aload_n 0, 1) := by decide +kernel
theorem dX7_addUp_19 : decode cX7_addUp 19 = .ok (.getfield 9, 3) := by decide +kernel
theorem dX7_addUp_22 : decode cX7_addUp 22 = .ok (.iload_n 2, 1) := by decide +kernel
theorem dX7_addUp_23 : decode cX7_addUp 23 = .ok (.iaload, 1) := by decide +kernel
theorem dX7_addUp_24 : decode cX7_addUp 24 = .ok (.iastore, 1) := by decide +kernel
theorem dX7_addUp_25 : decode cX7_addUp 25 = .ok (.iinc 2 1, 3) := by decide +kernel
theorem dX7_addUp_28 : decode cX7_addUp 28 = .ok (.goto (-26), 3) := by decide +kernel
theorem dX7_addUp_31 : decode cX7_addUp 31 = .ok (.iconst 0, 1) := by decide +kernel
theorem dX7_addUp_32 : decode cX7_addUp 32 = .ok (.istore_n 2, 1) := by decide +kernel
theorem dX7_addUp_33 : decode cX7_addUp 33 = .ok (.iload_n 2, 1) := by decide +kernel
theorem dX7_addUp_34 : decode cX7_addUp 34 = .ok (.aload_n 0, 1) := by decide +kernel
theorem dX7_addUp_35 : decode cX7_addUp 35 = .ok (.getfield 41, 3) := by decide +kernel
theorem dX7_addUp_38 : decode cX7_addUp 38 = .ok (.getfield 51, 3) := by decide +kernel
theorem dX7_addUp_41 : decode cX7_addUp 41 = .ok (.if_icmp .ge 67, 3) := by decide +kernel
theorem dX7_addUp_44 : decode cX7_addUp 44 = .ok (.aload_n 0, 1) := by decide +kernel
theorem dX7_addUp_45 : decode cX7_addUp 45 = .ok (.getfield 41, 3) := by decide +kernel
theorem dX7_addUp_48 : decode cX7_addUp 48 = .ok (.iload_n 1, 1) := by decide +kernel
theorem dX7_addUp_49 : decode cX7_addUp 49 = .ok (.iload_n 2, 1) := by decide +kernel
theorem dX7_addUp_50 : decode cX7_addUp 50 = .ok (.invokevirtual 54, 3) := by decide +kernel
theorem dX7_addUp_53 : decode cX7_addUp 53 = .ok (.istore_n 3, 1) := by decide +kernel
theorem dX7_addUp_54 : decode cX7_addUp 54 = .ok (.iconst 0, 1) := by decide +kernel
theorem dX7_addUp_55 : decode cX7_addUp 55 = .ok (.istore 4, 2) := by decide +kernel
theorem dX7_addUp_57 : decode cX7_addUp 57 = .ok (.iload 4, 2) := by decide +kernel
theorem dX7_addUp_59 : decode cX7_addUp 59 = .ok (.aload_n 0, 1) := by decide +kernel
theorem dX7_addUp_60 : decode cX7_addUp 60 = .ok (.getfield 41, 3) := by decide +kernel
theorem dX7_addUp_63 : decode cX7_addUp 63 = .ok (.getfield 45, 3) := by decide +kernel
theorem dX7_addUp_66 : decode cX7_addUp 66 = .ok (.if_icmp .ge 36, 3) := by decide +kernel
theorem dX7_addUp_69 : decode cX7_addUp 69 = .ok (.aload_n 0, 1) := by decide +kernel
theorem dX7_addUp_70 : decode cX7_addUp 70 = .ok (.getfield 18, 3) := by decide +kernel
theorem dX7_addUp_73 : decode cX7_addUp 73 = .ok (.iload 4, 2) := by decide +kernel
theorem dX7_addUp_75 : decode cX7_addUp 75 = .ok (.dup2, 1) := by decide +kernel
theorem dX7_addUp_76 : decode cX7_addUp 76 = .ok (.iaload, 1) := by decide +kernel
theorem dX7_addUp_77 : decode cX7_addUp 77 = .ok (.aload_n 0, 1) := by decide +kernel
theorem dX7_addUp_78 : decode cX7_addUp 78 = .ok (.getfield 15, 3) := by decide +kernel
theorem dX7_addUp_81 : decode cX7_addUp 81 = .ok (.iload_n 2, 1) := by decide +kernel
theorem dX7_addUp_82 : decode cX7_addUp 82 = .ok (.iaload, 1) := by decide +kernel
theorem dX7_addUp_83 : decode cX7_addUp 83 = .ok (.aload_n 0, 1) := by decide +kernel
theorem dX7_addUp_84 : decode cX7_addUp 84 = .ok (.getfield 41, 3) := by decide +kernel
theorem dX7_addUp_87 : decode cX7_addUp 87 = .ok (.iload_n 3, 1) := by decide +kernel
theorem dX7_addUp_88 : decode cX7_addUp 88 = .ok (.iload 4, 2) := by decide +kernel
theorem dX7_addUp_90 : decode cX7_addUp 90 = .ok (.invokevirtual 65, 3) := by decide +kernel
theorem dX7_addUp_93 : decode cX7_addUp 93 = .ok (.imul, 1) := by decide +kernel
theorem dX7_addUp_94 : decode cX7_addUp 94 = .ok (.iadd, 1) := by decide +kernel
theorem dX7_addUp_95 : decode cX7_addUp 95 = .ok (.iastore, 1) := by decide +kernel
theorem dX7_addUp_96 : decode cX7_addUp 96 = .ok (.iinc 4 1, 3) := by decide +kernel
theorem dX7_addUp_99 : decode cX7_addUp 99 = .ok (.goto (-42), 3) := by decide +kernel
theorem dX7_addUp_102 : decode cX7_addUp 102 = .ok (.iinc 2 1, 3) := by decide +kernel
theorem dX7_addUp_105 : decode cX7_addUp 105 = .ok (.goto (-72), 3) := by decide +kernel
theorem dX7_addUp_108 : decode cX7_addUp 108 = .ok (.return_, 1) := by decide +kernel
theorem dX7_ownPayment_0 : decode cX7_ownPayment 0 = .ok (.iload_n 2, 1) := by decide +kernel
theorem dX7_ownPayment_1 : decode cX7_ownPayment 1 = .ok (.iconst 1, 1) := by decide +kernel
theorem dX7_ownPayment_2 : decode cX7_ownPayment 2 = .ok (.if_icmp .ge 5, 3) := by decide +kernel
theorem dX7_ownPayment_5 : decode cX7_ownPayment 5 = .ok (.iconst 0, 1) := by decide +kernel
theorem dX7_ownPayment_6 : decode cX7_ownPayment 6 = .ok (.ireturn, 1) := by decide +kernel
theorem dX7_ownPayment_7 : decode cX7_ownPayment 7 = .ok (.ldc 68, 2) := by decide +kernel
theorem dX7_ownPayment_9 : decode cX7_ownPayment 9 = .ok (.istore 4, 2) := by decide +kernel
theorem dX7_ownPayment_11 : decode cX7_ownPayment 11 = .ok (.iconst 0, 1) := by decide +kernel
theorem dX7_ownPayment_12 : decode cX7_ownPayment 12 = .ok (.istore 5, 2) := by decide +kernel
theorem dX7_ownPayment_14 : decode cX7_ownPayment 14 = .ok (.iload 5, 2) := by decide +kernel
theorem dX7_ownPayment_16 : decode cX7_ownPayment 16 = .ok (.aload_n 0, 1) := by decide +kernel
theorem dX7_ownPayment_17 : decode cX7_ownPayment 17 = .ok (.getfield 41, 3) := by decide +kernel
theorem dX7_ownPayment_20 : decode cX7_ownPayment 20 = .ok (.getfield 45, 3) := by decide +kernel
theorem dX7_ownPayment_23 : decode cX7_ownPayment 23 = .ok (.if_icmp .ge 36, 3) := by decide +kernel
theorem dX7_ownPayment_26 : decode cX7_ownPayment 26 = .ok (.iload 4, 2) := by decide +kernel
theorem dX7_ownPayment_28 : decode cX7_ownPayment 28 = .ok (.aload_n 0, 1) := by decide +kernel
theorem dX7_ownPayment_29 : decode cX7_ownPayment 29 = .ok (.getfield 18, 3) := by decide +kernel
theorem dX7_ownPayment_32 : decode cX7_ownPayment 32 = .ok (.iload 5, 2) := by decide +kernel
theorem dX7_ownPayment_34 : decode cX7_ownPayment 34 = .ok (.iaload, 1) := by decide +kernel
theorem dX7_ownPayment_35 : decode cX7_ownPayment 35 = .ok (.iload_n 2, 1) := by decide +kernel
theorem dX7_ownPayment_36 : decode cX7_ownPayment 36 = .ok (.aload_n 0, 1) := by decide +kernel
theorem dX7_ownPayment_37 : decode cX7_ownPayment 37 = .ok (.getfield 41, 3) := by decide +kernel
theorem dX7_ownPayment_40 : decode cX7_ownPayment 40 = .ok (.iload_n 1, 1) := by decide +kernel
theorem dX7_ownPayment_41 : decode cX7_ownPayment 41 = .ok (.iload 5, 2) := by decide +kernel
theorem dX7_ownPayment_43 : decode cX7_ownPayment 43 = .ok (.invokevirtual 65, 3) := by decide +kernel
theorem dX7_ownPayment_46 : decode cX7_ownPayment 46 = .ok (.imul, 1) := by decide +kernel
theorem dX7_ownPayment_47 : decode cX7_ownPayment 47 = .ok (.isub, 1) := by decide +kernel
theorem dX7_ownPayment_48 : decode cX7_ownPayment 48 = .ok (.invokestatic 69, 3) := by decide +kernel
theorem dX7_ownPayment_51 : decode cX7_ownPayment 51 = .ok (.istore 4, 2) := by decide +kernel
theorem dX7_ownPayment_53 : decode cX7_ownPayment 53 = .ok (.iinc 5 1, 3) := by decide +kernel
theorem dX7_ownPayment_56 : decode cX7_ownPayment 56 = .ok (.goto (-42), 3) := by decide +kernel
theorem dX7_ownPayment_59 : decode cX7_ownPayment 59 = .ok (.iload 4, 2) := by decide +kernel
theorem dX7_ownPayment_61 : decode cX7_ownPayment 61 = .ok (.aload_n 0, 1) := by decide +kernel
theorem dX7_ownPayment_62 : decode cX7_ownPayment 62 = .ok (.getfield 18, 3) := by decide +kernel
theorem dX7_ownPayment_65 : decode cX7_ownPayment 65 = .ok (.iload_n 3, 1) := by decide +kernel
theorem dX7_ownPayment_66 : decode cX7_ownPayment 66 = .ok (.iaload, 1) := by decide +kernel
theorem dX7_ownPayment_67 : decode cX7_ownPayment 67 = .ok (.iload_n 2, 1) := by decide +kernel
theorem dX7_ownPayment_68 : decode cX7_ownPayment 68 = .ok (.aload_n 0, 1) := by decide +kernel
theorem dX7_ownPayment_69 : decode cX7_ownPayment 69 = .ok (.getfield 41, 3) := by decide +kernel
theorem dX7_ownPayment_72 : decode cX7_ownPayment 72 = .ok (.iload_n 1, 1) := by decide +kernel
theorem dX7_ownPayment_73 : decode cX7_ownPayment 73 = .ok (.iload_n 3, 1) := by decide +kernel
theorem dX7_ownPayment_74 : decode cX7_ownPayment 74 = .ok (.invokevirtual 65, 3) := by decide +kernel
theorem dX7_ownPayment_77 : decode cX7_ownPayment 77 = .ok (.imul, 1) := by decide +kernel
theorem dX7_ownPayment_78 : decode cX7_ownPayment 78 = .ok (.isub, 1) := by decide +kernel
theorem dX7_ownPayment_79 : decode cX7_ownPayment 79 = .ok (.isub, 1) := by decide +kernel
theorem dX7_ownPayment_80 : decode cX7_ownPayment 80 = .ok (.iload_n 2, 1) := by decide +kernel
theorem dX7_ownPayment_81 : decode cX7_ownPayment 81 = .ok (.idiv, 1) := by decide +kernel
theorem dX7_ownPayment_82 : decode cX7_ownPayment 82 = .ok (.ireturn, 1) := by decide +kernel
theorem dX7_heft_0 : decode cX7_heft 0 = .ok (.iconst 2, 1) := by decide +kernel
theorem dX7_heft_1 : decode cX7_heft 1 = .ok (.aload_n 0, 1) := by decide +kernel
theorem dX7_heft_2 : decode cX7_heft 2 = .ok (.invokespecial 74, 3) := by decide +kernel
theorem dX7_heft_5 : decode cX7_heft 5 = .ok (.imul, 1) := by decide +kernel
theorem dX7_heft_6 : decode cX7_heft 6 = .ok (.ireturn, 1) := by decide +kernel
theorem dX8_init_0 : decode cX8_init 0 = .ok (.aload_n 0, 1) := by decide +kernel
theorem dX8_init_1 : decode cX8_init 1 = .ok (.invokespecial 3, 3) := by decide +kernel
theorem dX8_init_4 : decode cX8_init 4 = .ok (.aload_n 0, 1) := by decide +kernel
theorem dX8_init_5 : decode cX8_init 5 = .ok (.iload_n 1, 1) := by decide +kernel
theorem dX8_init_6 : decode cX8_init 6 = .ok (.putfield 9, 3) := by decide +kernel
theorem dX8_init_9 : decode cX8_init 9 = .ok (.aload_n 0, 1) := by decide +kernel
theorem dX8_init_10 : decode cX8_init 10 = .ok (.iload_n 2, 1) := by decide +kernel
theorem dX8_init_11 : decode cX8_init 11 = .ok (.putfield 15, 3) := by decide +kernel
theorem dX8_init_14 : decode cX8_init 14 = .ok (.aload_n 0, 1) := by decide +kernel
theorem dX8_init_15 : decode cX8_init 15 = .ok (.bipush 30, 2) := by decide +kernel
theorem dX8_init_17 : decode cX8_init 17 = .ok (.newarray .int, 2) := by decide +kernel
theorem dX8_init_19 : decode cX8_init 19 = .ok (.putfield 18, 3) := by decide +kernel
theorem dX8_init_22 : decode cX8_init 22 = .ok (.aload_n 0, 1) := by decide +kernel
theorem dX8_init_23 : decode cX8_init 23 = .ok (.iconst 5, 1) := by decide +kernel
theorem dX8_init_24 : decode cX8_init 24 = .ok (.newarray .int, 2) := by decide +kernel
theorem dX8_init_26 : decode cX8_init 26 = .ok (.putfield 22, 3) := by decide +kernel
theorem dX8_init_29 : decode cX8_init 29 = .ok (.return_, 1) := by decide +kernel
theorem dX8_come_0 : decode cX8_come 0 = .ok (.aload_n 0, 1) := by decide +kernel
theorem dX8_come_1 : decode cX8_come 1 = .ok (.dup, 1) := by decide +kernel
theorem dX8_come_2 : decode cX8_come 2 = .ok (.getfield 25, 3) := by decide +kernel
theorem dX8_come_5 : decode cX8_come 5 = .ok (.iconst 1, 1) := by decide +kernel
theorem dX8_come_6 : decode cX8_come 6 = .ok (.iadd, 1) := by decide +kernel
theorem dX8_come_7 : decode cX8_come 7 = .ok (.putfield 25, 3) := by decide +kernel
theorem dX8_come_10 : decode cX8_come 10 = .ok (.iconst 1, 1) := by decide +kernel
theorem dX8_come_11 : decode cX8_come 11 = .ok (.istore_n 1, 1) := by decide +kernel
theorem dX8_come_12 : decode cX8_come 12 = .ok (.iconst 0, 1) := by decide +kernel
theorem dX8_come_13 : decode cX8_come 13 = .ok (.istore_n 2, 1) := by decide +kernel
theorem dX8_come_14 : decode cX8_come 14 = .ok (.iload_n 2, 1) := by decide +kernel
theorem dX8_come_15 : decode cX8_come 15 = .ok (.aload_n 0, 1) := by decide +kernel
theorem dX8_come_16 : decode cX8_come 16 = .ok (.getfield 9, 3) := by decide +kernel
theorem dX8_come_19 : decode cX8_come 19 = .ok (.if_icmp .gt 23, 3) := by decide +kernel
theorem dX8_come_22 : decode cX8_come 22 = .ok (.aload_n 0, 1) := by decide +kernel
theorem dX8_come_23 : decode cX8_come 23 = .ok (.getfield 22, 3) := by decide +kernel
theorem dX8_come_26 : decode cX8_come 26 = .ok (.iload_n 2, 1) := by decide +kernel
theorem dX8_come_27 : decode cX8_come 27 = .ok (.iload_n 1, 1) := by decide +kernel
theorem dX8_come_28 : decode cX8_come 28 = .ok (.iastore, 1) := by decide +kernel
theorem dX8_come_29 : decode cX8_come 29 = .ok (.iload_n 1, 1) := by decide +kernel
theorem dX8_come_30 : decode cX8_come 30 = .ok (.aload_n 0, 1) := by decide +kernel
theorem dX8_come_31 : decode cX8_come 31 = .ok (.getfield 25, 3) := by decide +kernel
theorem dX8_come_34 : decode cX8_come 34 = .ok (.imul, 1) := by decide +kernel
theorem dX8_come_35 : decode cX8_come 35 = .ok (.istore_n 1, 1) := by decide +kernel
theorem dX8_come_36 : decode cX8_come 36 = .ok (.iinc 2 1, 3) := by decide +kernel
theorem dX8_come_39 : decode cX8_come 39 = .ok (.goto (-25), 3) := by decide +kernel
theorem dX8_come_42 : decode cX8_come 42 = .ok (.aload_n 0, 1) := by decide +kernel
theorem dX8_come_43 : decode cX8_come 43 = .ok (.aload_n 0, 1) := by decide +kernel
theorem dX8_come_44 : decode cX8_come 44 = .ok (.getfield 22, 3) := by decide +kernel
theorem dX8_come_47 : decode cX8_come 47 = .ok (.aload_n 0, 1) := by decide +kernel
theorem dX8_come_48 : decode cX8_come 48 = .ok (.getfield 9, 3) := by decide +kernel
theorem dX8_come_51 : decode cX8_come 51 = .ok (.iaload, 1) := by decide +kernel
theorem dX8_come_52 : decode cX8_come 52 = .ok (.putfield 28, 3) := by decide +kernel
theorem dX8_come_55 : decode cX8_come 55 = .ok (.aload_n 0, 1) := by decide +kernel
theorem dX8_come_56 : decode cX8_come 56 = .ok (.getfield 25, 3) := by decide +kernel
theorem dX8_come_59 : decode cX8_come 59 = .ok (.iconst 1, 1) := by decide +kernel
theorem dX8_come_60 : decode cX8_come 60 = .ok (.isub, 1) := by decide +kernel
theorem dX8_come_61 : decode cX8_come 61 = .ok (.ireturn, 1) := by decide +kernel
theorem dX8_number_0 : decode cX8_number 0 = .ok (.aload_n 0, 1) := by decide +kernel
theorem dX8_number_1 : decode cX8_number 1 = .ok (.getfield 18, 3) := by decide +kernel
theorem dX8_number_4 : decode cX8_number 4 = .ok (.iload_n 1, 1) := by decide +kernel
theorem dX8_number_5 : decode cX8_number 5 = .ok (.iconst 5, 1) := by decide +kernel
theorem dX8_number_6 : decode cX8_number 6 = .ok (.imul, 1) := by decide +kernel
theorem dX8_number_7 : decode cX8_number 7 = .ok (.iload_n 2, 1) := by decide +kernel
theorem dX8_number_8 : decode cX8_number 8 = .ok (.iadd, 1) := by decide +kernel
theorem dX8_number_9 : decode cX8_number 9 = .ok (.iaload, 1) := by decide +kernel
theorem dX8_number_10 : decode cX8_number 10 = .ok (.ireturn, 1) := by decide +kernel
theorem dX8_changeNumber_0 : decode cX8_changeNumber 0 = .ok (.aload_n 0, 1) := by decide +kernel
theorem dX8_changeNumber_1 : decode cX8_changeNumber 1 = .ok (.iload_n 1, 1) := by decide +kernel
theorem dX8_changeNumber_2 : decode cX8_changeNumber 2 = .ok (.iload_n 2, 1) := by decide +kernel
theorem dX8_changeNumber_3 : decode cX8_changeNumber 3 = .ok (.invokevirtual 31, 3) := by decide +kernel
theorem dX8_changeNumber_6 : decode cX8_changeNumber 6 = .ok (.istore 4, 2) := by decide +kernel
theorem dX8_changeNumber_8 : decode cX8_changeNumber 8 = .ok (.aload_n 0, 1) := by decide +kernel
theorem dX8_changeNumber_9 : decode cX8_changeNumber 9 = .ok (.getfield 18, 3) := by decide +kernel
theorem dX8_changeNumber_12 : decode cX8_changeNumber 12 = .ok (.iload_n 1, 1) := by decide +kernel
theorem dX8_changeNumber_13 : decode cX8_changeNumber 13 = .ok (.iconst 5, 1) := by decide +kernel
theorem dX8_changeNumber_14 : decode cX8_changeNumber 14 = .ok (.imul, 1) := by decide +kernel
theorem dX8_changeNumber_15 : decode cX8_changeNumber 15 = .ok (.iload_n 2, 1) := by decide +kernel
theorem dX8_changeNumber_16 : decode cX8_changeNumber 16 = .ok (.iadd, 1) := by decide +kernel
theorem dX8_changeNumber_17 : decode cX8_changeNumber 17 = .ok (.iload_n 3, 1) := by decide +kernel
theorem dX8_changeNumber_18 : decode cX8_changeNumber 18 = .ok (.iastore, 1) := by decide +kernel
theorem dX8_changeNumber_19 : decode cX8_changeNumber 19 = .ok (.iload 4, 2) := by decide +kernel
theorem dX8_changeNumber_21 : decode cX8_changeNumber 21 = .ok (.iload_n 3, 1) := by decide +kernel
theorem dX8_changeNumber_22 : decode cX8_changeNumber 22 = .ok (.if_icmp .ne 7, 3) := by decide +kernel
theorem dX8_changeNumber_25 : decode cX8_changeNumber 25 = .ok (.iconst 0, 1) := by decide +kernel
theorem dX8_changeNumber_26 : decode cX8_changeNumber 26 = .ok (.goto 4, 3) := by decide +kernel
theorem dX8_changeNumber_29 : decode cX8_changeNumber 29 = .ok (.iconst 1, 1) := by decide +kernel
theorem dX8_changeNumber_30 : decode cX8_changeNumber 30 = .ok (.ireturn, 1) := by decide +kernel
theorem dX8_wishIn_0 : decode cX8_wishIn 0 = .ok (.aload_n 0, 1) := by decide +kernel
theorem dX8_wishIn_1 : decode cX8_wishIn 1 = .ok (.getfield 22, 3) := by decide +kernel
theorem dX8_wishIn_4 : decode cX8_wishIn 4 = .ok (.iload_n 2, 1) := by decide +kernel
theorem dX8_wishIn_5 : decode cX8_wishIn 5 = .ok (.iaload, 1) := by decide +kernel
theorem dX8_wishIn_6 : decode cX8_wishIn 6 = .ok (.istore_n 3, 1) := by decide +kernel
theorem dX8_wishIn_7 : decode cX8_wishIn 7 = .ok (.iload_n 3, 1) := by decide +kernel
theorem dX8_wishIn_8 : decode cX8_wishIn 8 = .ok (.iconst 1, 1) := by decide +kernel
theorem dX8_wishIn_9 : decode cX8_wishIn 9 = .ok (.if_icmp .lt 11, 3) := by decide +kernel
theorem dX8_wishIn_12 : decode cX8_wishIn 12 = .ok (.aload_n 0, 1) := by decide +kernel
theorem dX8_wishIn_13 : decode cX8_wishIn 13 = .ok (.getfield 25, 3) := by decide +kernel
theorem dX8_wishIn_16 : decode cX8_wishIn 16 = .ok (.iconst 1, 1) := by decide +kernel
theorem dX8_wishIn_17 : decode cX8_wishIn 17 = .ok (.if_icmp .ge 7, 3) := by decide +kernel
theorem dX8_wishIn_20 : decode cX8_wishIn 20 = .ok (.iconst 0, 1) := by decide +kernel
theorem dX8_wishIn_21 : decode cX8_wishIn 21 = .ok (.goto 11, 3) := by decide +kernel
theorem dX8_wishIn_24 : decode cX8_wishIn 24 = .ok (.iload_n 1, 1) := by decide +kernel
theorem dX8_wishIn_25 : decode cX8_wishIn 25 = .ok (.iload_n 3, 1) := by decide +kernel
theorem dX8_wishIn_26 : decode cX8_wishIn 26 = .ok (.idiv, 1) := by decide +kernel
theorem dX8_wishIn_27 : decode cX8_wishIn 27 = .ok (.aload_n 0, 1) := by decide +kernel
theorem dX8_wishIn_28 : decode cX8_wishIn 28 = .ok (.getfield 25, 3) := by decide +kernel
theorem dX8_wishIn_31 : decode cX8_wishIn 31 = .ok (.irem, 1) := by decide +kernel
theorem dX8_wishIn_32 : decode cX8_wishIn 32 = .ok (.ireturn, 1) := by decide +kernel
theorem dX8_rowSaying_0 : decode cX8_rowSaying 0 = .ok (.iload_n 1, 1) := by decide +kernel
theorem dX8_rowSaying_1 : decode cX8_rowSaying 1 = .ok (.iload_n 3, 1) := by decide +kernel
theorem dX8_rowSaying_2 : decode cX8_rowSaying 2 = .ok (.aload_n 0, 1) := by decide +kernel
theorem dX8_rowSaying_3 : decode cX8_rowSaying 3 = .ok (.iload_n 1, 1) := by decide +kernel
theorem dX8_rowSaying_4 : decode cX8_rowSaying 4 = .ok (.iload_n 2, 1) := by decide +kernel
theorem dX8_rowSaying_5 : decode cX8_rowSaying 5 = .ok (.invokevirtual 35, 3) := by decide +kernel
theorem dX8_rowSaying_8 : decode cX8_rowSaying 8 = .ok (.isub, 1) := by decide +kernel
theorem dX8_rowSaying_9 : decode cX8_rowSaying 9 = .ok (.aload_n 0, 1) := by decide +kernel
theorem dX8_rowSaying_10 : decode cX8_rowSaying 10 = .ok (.getfield 22, 3) := by decide +kernel
theorem dX8_rowSaying_13 : decode cX8_rowSaying 13 = .ok (.iload_n 2, 1) := by decide +kernel
theorem dX8_rowSaying_14 : decode cX8_rowSaying 14 = .ok (.iaload, 1) := by decide +kernel
theorem dX8_rowSaying_15 : decode cX8_rowSaying 15 = .ok (.imul, 1) := by decide +kernel
theorem dX8_rowSaying_16 : decode cX8_rowSaying 16 = .ok (.iadd, 1) := by decide +kernel
theorem dX8_rowSaying_17 : decode cX8_rowSaying 17 = .ok (.ireturn, 1) := by decide +kernel
theorem dX8_top_0 : decode cX8_top 0 = .ok (.iconst 0, 1) := by decide +kernel
theorem dX8_top_1 : decode cX8_top 1 = .ok (.istore_n 2, 1) := by decide +kernel
theorem dX8_top_2 : decode cX8_top 2 = .ok (.iconst 1, 1) := by decide +kernel
theorem dX8_top_3 : decode cX8_top 3 = .ok (.istore_n 3, 1) := by decide +kernel
theorem dX8_top_4 : decode cX8_top 4 = .ok (.iload_n 3, 1) := by decide +kernel
theorem dX8_top_5 : decode cX8_top 5 = .ok (.aload_n 0, 1) := by decide +kernel
theorem dX8_top_6 : decode cX8_top 6 = .ok (.getfield 15, 3) := by decide +kernel
theorem dX8_top_9 : decode cX8_top 9 = .ok (.if_icmp .ge 26, 3) := by decide +kernel
theorem dX8_top_12 : decode cX8_top 12 = .ok (.aload_n 0, 1) := by decide +kernel
theorem dX8_top_13 : decode cX8_top 13 = .ok (.iload_n 1, 1) := by decide +kernel
theorem dX8_top_14 : decode cX8_top 14 = .ok (.iload_n 3, 1) := by decide +kernel
theorem dX8_top_15 : decode cX8_top 15 = .ok (.invokevirtual 31, 3) := by decide +kernel
theorem dX8_top_18 : decode cX8_top 18 = .ok (.aload_n 0, 1) := by decide +kernel
theorem dX8_top_19 : decode cX8_top 19 = .ok (.iload_n 1, 1) := by decide +kernel
theorem dX8_top_20 : decode cX8_top 20 = .ok (.iload_n 2, 1) := by decide +kernel
theorem dX8_top_21 : decode cX8_top 21 = .ok (.invokevirtual 31, 3) := by decide +kernel
theorem dX8_top_24 : decode cX8_top 24 = .ok (.if_icmp .le 5, 3) := by decide +kernel
theorem dX8_top_27 : decode cX8_top 27 = .ok (.iload_n 3, 1) := by decide +kernel
theorem dX8_top_28 : decode cX8_top 28 = .ok (.istore_n 2, 1) := by decide +kernel
theorem dX8_top_29 : decode cX8_top 29 = .ok (.iinc 3 1, 3) := by decide +kernel
theorem dX8_top_32 : decode cX8_top 32 = .ok (.goto (-28), 3) := by decide +kernel
theorem dX8_top_35 : decode cX8_top 35 = .ok (.iload_n 2, 1) := by decide +kernel
theorem dX8_top_36 : decode cX8_top 36 = .ok (.ireturn, 1) := by decide +kernel
theorem dX9_init_0 : decode cX9_init 0 = .ok (.aload_n 0, 1) := by decide +kernel
theorem dX9_init_1 : decode cX9_init 1 = .ok (.invokespecial 1, 3) := by decide +kernel
theorem dX9_init_4 : decode cX9_init 4 = .ok (.iconst 2, 1) := by decide +kernel
theorem dX9_init_5 : decode cX9_init 5 = .ok (.iload_n 1, 1) := by decide +kernel
theorem dX9_init_6 : decode cX9_init 6 = .ok (.iconst 3, 1) := by decide +kernel
theorem dX9_init_7 : decode cX9_init 7 = .ok (.invokestatic 7, 3) := by decide +kernel
theorem dX9_init_10 : decode cX9_init 10 = .ok (.iadd, 1) := by decide +kernel
theorem dX9_init_11 : decode cX9_init 11 = .ok (.istore_n 3, 1) := by decide +kernel
theorem dX9_init_12 : decode cX9_init 12 = .ok (.iconst 2, 1) := by decide +kernel
theorem dX9_init_13 : decode cX9_init 13 = .ok (.iload_n 2, 1) := by decide +kernel
theorem dX9_init_14 : decode cX9_init 14 = .ok (.iconst 4, 1) := by decide +kernel
theorem dX9_init_15 : decode cX9_init 15 = .ok (.invokestatic 7, 3) := by decide +kernel
theorem dX9_init_18 : decode cX9_init 18 = .ok (.iadd, 1) := by decide +kernel
theorem dX9_init_19 : decode cX9_init 19 = .ok (.istore 4, 2) := by decide +kernel
theorem dX9_init_21 : decode cX9_init 21 = .ok (.new 13, 3) := by decide +kernel
theorem dX9_init_24 : decode cX9_init 24 = .ok (.dup, 1) := by decide +kernel
theorem dX9_init_25 : decode cX9_init 25 = .ok (.iload_n 3, 1) := by decide +kernel
theorem dX9_init_26 : decode cX9_init 26 = .ok (.iload 4, 2) := by decide +kernel
theorem dX9_init_28 : decode cX9_init 28 = .ok (.invokespecial 15, 3) := by decide +kernel
theorem dX9_init_31 : decode cX9_init 31 = .ok (.astore 5, 2) := by decide +kernel
theorem dX9_init_33 : decode cX9_init 33 = .ok (.aload_n 0, 1) := by decide +kernel
theorem dX9_init_34 : decode cX9_init 34 = .ok (.iload_n 3, 1) := by decide +kernel
theorem dX9_init_35 : decode cX9_init 35 = .ok (.putfield 18, 3) := by decide +kernel
theorem dX9_init_38 : decode cX9_init 38 = .ok (.aload_n 0, 1) := by decide +kernel
theorem dX9_init_39 : decode cX9_init 39 = .ok (.iload 4, 2) := by decide +kernel
theorem dX9_init_41 : decode cX9_init 41 = .ok (.putfield 24, 3) := by decide +kernel
theorem dX9_init_44 : decode cX9_init 44 = .ok (.aload_n 0, 1) := by decide +kernel
theorem dX9_init_45 : decode cX9_init 45 = .ok (.aload 5, 2) := by decide +kernel
theorem dX9_init_47 : decode cX9_init 47 = .ok (.putfield 27, 3) := by decide +kernel
theorem dX9_init_50 : decode cX9_init 50 = .ok (.aload_n 0, 1) := by decide +kernel
theorem dX9_init_51 : decode cX9_init 51 = .ok (.bipush 8, 2) := by decide +kernel
theorem dX9_init_53 : decode cX9_init 53 = .ok (.anewarray 31, 3) := by decide +kernel
theorem dX9_init_56 : decode cX9_init 56 = .ok (.putfield 33, 3) := by decide +kernel
theorem dX9_init_59 : decode cX9_init 59 = .ok (.aload_n 0, 1) := by decide +kernel
theorem dX9_init_60 : decode cX9_init 60 = .ok (.new 37, 3) := by decide +kernel
theorem dX9_init_63 : decode cX9_init 63 = .ok (.dup, 1) := by decide +kernel
theorem dX9_init_64 : decode cX9_init 64 = .ok (.aload 5, 2) := by decide +kernel
theorem dX9_init_66 : decode cX9_init 66 = .ok (.invokespecial 39, 3) := by decide +kernel
theorem dX9_init_69 : decode cX9_init 69 = .ok (.putfield 42, 3) := by decide +kernel
theorem dX9_init_72 : decode cX9_init 72 = .ok (.aload_n 0, 1) := by decide +kernel
theorem dX9_init_73 : decode cX9_init 73 = .ok (.new 46, 3) := by decide +kernel
theorem dX9_init_76 : decode cX9_init 76 = .ok (.dup, 1) := by decide +kernel
theorem dX9_init_77 : decode cX9_init 77 = .ok (.aload 5, 2) := by decide +kernel
theorem dX9_init_79 : decode cX9_init 79 = .ok (.invokespecial 48, 3) := by decide +kernel
theorem dX9_init_82 : decode cX9_init 82 = .ok (.putfield 49, 3) := by decide +kernel
theorem dX9_init_85 : decode cX9_init 85 = .ok (.aload_n 0, 1) := by decide +kernel
theorem dX9_init_86 : decode cX9_init 86 = .ok (.new 53, 3) := by decide +kernel
theorem dX9_init_89 : decode cX9_init 89 = .ok (.dup, 1) := by decide +kernel
theorem dX9_init_90 : decode cX9_init 90 = .ok (.iload_n 3, 1) := by decide +kernel
theorem dX9_init_91 : decode cX9_init 91 = .ok (.invokespecial 55, 3) := by decide +kernel
theorem dX9_init_94 : decode cX9_init 94 = .ok (.putfield 58, 3) := by decide +kernel
theorem dX9_init_97 : decode cX9_init 97 = .ok (.aload_n 0, 1) := by decide +kernel
theorem dX9_init_98 : decode cX9_init 98 = .ok (.bipush 8, 2) := by decide +kernel
theorem dX9_init_100 : decode cX9_init 100 = .ok (.anewarray 62, 3) := by decide +kernel
theorem dX9_init_103 : decode cX9_init 103 = .ok (.putfield 64, 3) := by decide +kernel
theorem dX9_init_106 : decode cX9_init 106 = .ok (.iconst 0, 1) := by decide +kernel
theorem dX9_init_107 : decode cX9_init 107 = .ok (.istore 6, 2) := by decide +kernel
theorem dX9_init_109 : decode cX9_init 109 = .ok (.iload 6, 2) := by decide +kernel
theorem dX9_init_111 : decode cX9_init 111 = .ok (.bipush 8, 2) := by decide +kernel
theorem dX9_init_113 : decode cX9_init 113 = .ok (.if_icmp .ge 23, 3) := by decide +kernel
theorem dX9_init_116 : decode cX9_init 116 = .ok (.aload_n 0, 1) := by decide +kernel
theorem dX9_init_117 : decode cX9_init 117 = .ok (.getfield 64, 3) := by decide +kernel
theorem dX9_init_120 : decode cX9_init 120 = .ok (.iload 6, 2) := by decide +kernel
theorem dX9_init_122 : decode cX9_init 122 = .ok (.new 62, 3) := by decide +kernel
theorem dX9_init_125 : decode cX9_init 125 = .ok (.dup, 1) := by decide +kernel
theorem dX9_init_126 : decode cX9_init 126 = .ok (.invokespecial 68, 3) := by decide +kernel
theorem dX9_init_129 : decode cX9_init 129 = .ok (.aastore, 1) := by decide +kernel
theorem dX9_init_130 : decode cX9_init 130 = .ok (.iinc 6 1, 3) := by decide +kernel
theorem dX9_init_133 : decode cX9_init 133 = .ok (.goto (-24), 3) := by decide +kernel
theorem dX9_init_136 : decode cX9_init 136 = .ok (.return_, 1) := by decide +kernel
theorem dX9_wish_0 : decode cX9_wish 0 = .ok (.aload_n 0, 1) := by decide +kernel
theorem dX9_wish_1 : decode cX9_wish 1 = .ok (.getfield 27, 3) := by decide +kernel
theorem dX9_wish_4 : decode cX9_wish 4 = .ok (.getfield 69, 3) := by decide +kernel
theorem dX9_wish_7 : decode cX9_wish 7 = .ok (.bipush 6, 2) := by decide +kernel
theorem dX9_wish_9 : decode cX9_wish 9 = .ok (.if_icmp .lt 6, 3) := by decide +kernel
theorem dX9_wish_12 : decode cX9_wish 12 = .ok (.bipush (-2), 2) := by decide +kernel
theorem dX9_wish_14 : decode cX9_wish 14 = .ok (.ireturn, 1) := by decide +kernel
theorem dX9_wish_15 : decode cX9_wish 15 = .ok (.aload_n 0, 1) := by decide +kernel
theorem dX9_wish_16 : decode cX9_wish 16 = .ok (.getfield 72, 3) := by decide +kernel
theorem dX9_wish_19 : decode cX9_wish 19 = .ok (.ifCond .le 8, 3) := by decide +kernel
theorem dX9_wish_22 : decode cX9_wish 22 = .ok (.bipush (-3), 2) := by decide +kernel
theorem dX9_wish_24 : decode cX9_wish 24 = .ok (.goto 10, 3) := by decide +kernel
theorem dX9_wish_27 : decode cX9_wish 27 = .ok (.aload_n 0, 1) := by decide +kernel
theorem dX9_wish_28 : decode cX9_wish 28 = .ok (.getfield 27, 3) := by decide +kernel
theorem dX9_wish_31 : decode cX9_wish 31 = .ok (.invokevirtual 75, 3) := by decide +kernel
theorem dX9_wish_34 : decode cX9_wish 34 = .ok (.ireturn, 1) := by decide +kernel
theorem dX9_worth_0 : decode cX9_worth 0 = .ok (.aload_n 0, 1) := by decide +kernel
theorem dX9_worth_1 : decode cX9_worth 1 = .ok (.iload_n 1, 1) := by decide +kernel
theorem dX9_worth_2 : decode cX9_worth 2 = .ok (.invokevirtual 79, 3) := by decide +kernel
theorem dX9_worth_5 : decode cX9_worth 5 = .ok (.ifCond .eq 22, 3) := by decide +kernel
theorem dX9_worth_8 : decode cX9_worth 8 = .ok (.aload_n 0, 1) := by decide +kernel
theorem dX9_worth_9 : decode cX9_worth 9 = .ok (.iload_n 2, 1) := by decide +kernel
theorem dX9_worth_10 : decode cX9_worth 10 = .ok (.invokevirtual 83, 3) := by decide +kernel
theorem dX9_worth_13 : decode cX9_worth 13 = .ok (.ifCond .eq 14, 3) := by decide +kernel
theorem dX9_worth_16 : decode cX9_worth 16 = .ok (.iload_n 3, 1) := by decide +kernel
theorem dX9_worth_17 : decode cX9_worth 17 = .ok (.bipush (-99), 2) := by decide +kernel
theorem dX9_worth_19 : decode cX9_worth 19 = .ok (.bipush 99, 2) := by decide +kernel
theorem dX9_worth_21 : decode cX9_worth 21 = .ok (.invokestatic 86, 3) := by decide +kernel
theorem dX9_worth_24 : decode cX9_worth 24 = .ok (.ifCond .ne 5, 3) := by decide +kernel
theorem dX9_worth_27 : decode cX9_worth 27 = .ok (.iconst (-1), 1) := by decide +kernel
theorem dX9_worth_28 : decode cX9_worth 28 = .ok (.ireturn, 1) := by decide +kernel
theorem dX9_worth_29 : decode cX9_worth 29 = .ok (.aload_n 0, 1) := by decide +kernel
theorem dX9_worth_30 : decode cX9_worth 30 = .ok (.getfield 72, 3) := by decide +kernel
theorem dX9_worth_33 : decode cX9_worth 33 = .ok (.ifCond .le 8, 3) := by decide +kernel
theorem dX9_worth_36 : decode cX9_worth 36 = .ok (.bipush (-3), 2) := by decide +kernel
theorem dX9_worth_38 : decode cX9_worth 38 = .ok (.goto 13, 3) := by decide +kernel
theorem dX9_worth_41 : decode cX9_worth 41 = .ok (.aload_n 0, 1) := by decide +kernel
theorem dX9_worth_42 : decode cX9_worth 42 = .ok (.getfield 27, 3) := by decide +kernel
theorem dX9_worth_45 : decode cX9_worth 45 = .ok (.iload_n 1, 1) := by decide +kernel
theorem dX9_worth_46 : decode cX9_worth 46 = .ok (.iload_n 2, 1) := by decide +kernel
theorem dX9_worth_47 : decode cX9_worth 47 = .ok (.iload_n 3, 1) := by decide +kernel
theorem dX9_worth_48 : decode cX9_worth 48 = .ok (.invokevirtual 90, 3) := by decide +kernel
theorem dX9_worth_51 : decode cX9_worth 51 = .ok (.ireturn, 1) := by decide +kernel
theorem dX9_rule_0 : decode cX9_rule 0 = .ok (.iload_n 1, 1) := by decide +kernel
theorem dX9_rule_1 : decode cX9_rule 1 = .ok (.iconst 0, 1) := by decide +kernel
theorem dX9_rule_2 : decode cX9_rule 2 = .ok (.iconst 3, 1) := by decide +kernel
theorem dX9_rule_3 : decode cX9_rule 3 = .ok (.invokestatic 86, 3) := by decide +kernel
theorem dX9_rule_6 : decode cX9_rule 6 = .ok (.ifCond .eq 14, 3) := by decide +kernel
theorem dX9_rule_9 : decode cX9_rule 9 = .ok (.aload_n 0, 1) := by decide +kernel
theorem dX9_rule_10 : decode cX9_rule 10 = .ok (.getfield 27, 3) := by decide +kernel
theorem dX9_rule_13 : decode cX9_rule 13 = .ok (.getfield 69, 3) := by decide +kernel
theorem dX9_rule_16 : decode cX9_rule 16 = .ok (.iconst 1, 1) := by decide +kernel
theorem dX9_rule_17 : decode cX9_rule 17 = .ok (.if_icmp .ge 5, 3) := by decide +kernel
theorem dX9_rule_20 : decode cX9_rule 20 = .ok (.iconst (-1), 1) := by decide +kernel
theorem dX9_rule_21 : decode cX9_rule 21 = .ok (.ireturn, 1) := by decide +kernel
theorem dX9_rule_22 : decode cX9_rule 22 = .ok (.aload_n 0, 1) := by decide +kernel
theorem dX9_rule_23 : decode cX9_rule 23 = .ok (.getfield 72, 3) := by decide +kernel
theorem dX9_rule_26 : decode cX9_rule 26 = .ok (.bipush 8, 2) := by decide +kernel
theorem dX9_rule_28 : decode cX9_rule 28 = .ok (.if_icmp .lt 8, 3) := by decide +kernel
theorem dX9_rule_31 : decode cX9_rule 31 = .ok (.bipush (-2), 2) := by decide +kernel
theorem dX9_rule_33 : decode cX9_rule 33 = .ok (.goto 19, 3) := by decide +kernel
theorem dX9_rule_36 : decode cX9_rule 36 = .ok (.aload_n 0, 1) := by decide +kernel
theorem dX9_rule_37 : decode cX9_rule 37 = .ok (.iload_n 1, 1) := by decide +kernel
theorem dX9_rule_38 : decode cX9_rule 38 = .ok (.aload_n 0, 1) := by decide +kernel
theorem dX9_rule_39 : decode cX9_rule 39 = .ok (.getfield 72, 3) := by decide +kernel
theorem dX9_rule_42 : decode cX9_rule 42 = .ok (.aload_n 0, 1) := by decide +kernel
theorem dX9_rule_43 : decode cX9_rule 43 = .ok (.getfield 27, 3) := by decide +kernel
theorem dX9_rule_46 : decode cX9_rule 46 = .ok (.invokestatic 94, 3) := by decide +kernel
theorem dX9_rule_49 : decode cX9_rule 49 = .ok (.invokevirtual 98, 3) := by decide +kernel
theorem dX9_rule_52 : decode cX9_rule 52 = .ok (.ireturn, 1) := by decide +kernel
theorem dX9_put_0 : decode cX9_put 0 = .ok (.aload_n 0, 1) := by decide +kernel
theorem dX9_put_1 : decode cX9_put 1 = .ok (.iload_n 1, 1) := by decide +kernel
theorem dX9_put_2 : decode cX9_put 2 = .ok (.invokevirtual 102, 3) := by decide +kernel
theorem dX9_put_5 : decode cX9_put 5 = .ok (.astore 4, 2) := by decide +kernel
theorem dX9_put_7 : decode cX9_put 7 = .ok (.aload 4, 2) := by decide +kernel
theorem dX9_put_9 : decode cX9_put 9 = .ok (.ifnull 19, 3) := by decide +kernel
theorem dX9_put_12 : decode cX9_put 12 = .ok (.aload_n 0, 1) := by decide +kernel
theorem dX9_put_13 : decode cX9_put 13 = .ok (.iload_n 2, 1) := by decide +kernel
theorem dX9_put_14 : decode cX9_put 14 = .ok (.invokevirtual 106, 3) := by decide +kernel
theorem dX9_put_17 : decode cX9_put 17 = .ok (.ifCond .eq 11, 3) := by decide +kernel
theorem dX9_put_20 : decode cX9_put 20 = .ok (.aload_n 0, 1) := by decide +kernel
theorem dX9_put_21 : decode cX9_put 21 = .ok (.iload_n 3, 1) := by decide +kernel
theorem dX9_put_22 : decode cX9_put 22 = .ok (.invokevirtual 83, 3) := by decide +kernel
theorem dX9_put_25 : decode cX9_put 25 = .ok (.ifCond .ne 5, 3) := by decide +kernel
theorem dX9_put_28 : decode cX9_put 28 = .ok (.iconst (-1), 1) := by decide +kernel
theorem dX9_put_29 : decode cX9_put 29 = .ok (.ireturn, 1) := by decide +kernel
theorem dX9_put_30 : decode cX9_put 30 = .ok (.aload 4, 2) := by decide +kernel
theorem dX9_put_32 : decode cX9_put 32 = .ok (.iload_n 2, 1) := by decide +kernel
theorem dX9_put_33 : decode cX9_put 33 = .ok (.iload_n 3, 1) := by decide +kernel
theorem dX9_put_34 : decode cX9_put 34 = .ok (.invokevirtual 109, 3) := by decide +kernel
theorem dX9_put_37 : decode cX9_put 37 = .ok (.ireturn, 1) := by decide +kernel
theorem dX9_pay_0 : decode cX9_pay 0 = .ok (.aload_n 0, 1) := by decide +kernel
theorem dX9_pay_1 : decode cX9_pay 1 = .ok (.iload_n 1, 1) := by decide +kernel
theorem dX9_pay_2 : decode cX9_pay 2 = .ok (.invokevirtual 102, 3) := by decide +kernel
theorem dX9_pay_5 : decode cX9_pay 5 = .ok (.astore 5, 2) := by decide +kernel
theorem dX9_pay_7 : decode cX9_pay 7 = .ok (.aload 5, 2) := by decide +kernel
theorem dX9_pay_9 : decode cX9_pay 9 = .ok (.ifnull 33, 3) := by decide +kernel
theorem dX9_pay_12 : decode cX9_pay 12 = .ok (.aload_n 0, 1) := by decide +kernel
theorem dX9_pay_13 : decode cX9_pay 13 = .ok (.iload_n 2, 1) := by decide +kernel
theorem dX9_pay_14 : decode cX9_pay 14 = .ok (.invokevirtual 106, 3) := by decide +kernel
theorem dX9_pay_17 : decode cX9_pay 17 = .ok (.ifCond .eq 25, 3) := by decide +kernel
theorem dX9_pay_20 : decode cX9_pay 20 = .ok (.aload_n 0, 1) := by decide +kernel
theorem dX9_pay_21 : decode cX9_pay 21 = .ok (.iload_n 3, 1) := by decide +kernel
theorem dX9_pay_22 : decode cX9_pay 22 = .ok (.invokevirtual 112, 3) := by decide +kernel
theorem dX9_pay_25 : decode cX9_pay 25 = .ok (.ifCond .eq 17, 3) := by decide +kernel
theorem dX9_pay_28 : decode cX9_pay 28 = .ok (.iload 4, 2) := by decide +kernel
theorem dX9_pay_30 : decode cX9_pay 30 = .ok (.sipush (-9999), 3) := by decide +kernel
theorem dX9_pay_33 : decode cX9_pay 33 = .ok (.sipush 9999, 3) := by decide +kernel
theorem dX9_pay_36 : decode cX9_pay 36 = .ok (.invokestatic 86, 3) := by decide +kernel
theorem dX9_pay_39 : decode cX9_pay 39 = .ok (.ifCond .ne 5, 3) := by decide +kernel
theorem dX9_pay_42 : decode cX9_pay 42 = .ok (.iconst (-1), 1) := by decide +kernel
theorem dX9_pay_43 : decode cX9_pay 43 = .ok (.ireturn, 1) := by decide +kernel
theorem dX9_pay_44 : decode cX9_pay 44 = .ok (.aload 5, 2) := by decide +kernel
theorem dX9_pay_46 : decode cX9_pay 46 = .ok (.iload_n 2, 1) := by decide +kernel
theorem dX9_pay_47 : decode cX9_pay 47 = .ok (.iload_n 3, 1) := by decide +kernel
theorem dX9_pay_48 : decode cX9_pay 48 = .ok (.iload 4, 2) := by decide +kernel
theorem dX9_pay_50 : decode cX9_pay 50 = .ok (.invokevirtual 115, 3) := by decide +kernel
theorem dX9_pay_53 : decode cX9_pay 53 = .ok (.ireturn, 1) := by decide +kernel
theorem dX9_gift_0 : decode cX9_gift 0 = .ok (.aload_n 0, 1) := by decide +kernel
theorem dX9_gift_1 : decode cX9_gift 1 = .ok (.iload_n 1, 1) := by decide +kernel
theorem dX9_gift_2 : decode cX9_gift 2 = .ok (.invokevirtual 102, 3) := by decide +kernel
theorem dX9_gift_5 : decode cX9_gift 5 = .ok (.astore 5, 2) := by decide +kernel
theorem dX9_gift_7 : decode cX9_gift 7 = .ok (.iload_n 3, 1) := by decide +kernel
theorem dX9_gift_8 : decode cX9_gift 8 = .ok (.iconst (-1), 1) := by decide +kernel
theorem dX9_gift_9 : decode cX9_gift 9 = .ok (.if_icmp .ne 27, 3) := by decide +kernel
theorem dX9_gift_12 : decode cX9_gift 12 = .ok (.aload_n 0, 1) := by decide +kernel
theorem dX9_gift_13 : decode cX9_gift 13 = .ok (.iload_n 2, 1) := by decide +kernel
theorem dX9_gift_14 : decode cX9_gift 14 = .ok (.invokevirtual 83, 3) := by decide +kernel
theorem dX9_gift_17 : decode cX9_gift 17 = .ok (.ifCond .eq 19, 3) := by decide +kernel
theorem dX9_gift_20 : decode cX9_gift 20 = .ok (.iload 4, 2) := by decide +kernel
theorem dX9_gift_22 : decode cX9_gift 22 = .ok (.bipush (-99), 2) := by decide +kernel
theorem dX9_gift_24 : decode cX9_gift 24 = .ok (.bipush 99, 2) := by decide +kernel
theorem dX9_gift_26 : decode cX9_gift 26 = .ok (.invokestatic 86, 3) := by decide +kernel
theorem dX9_gift_29 : decode cX9_gift 29 = .ok (.ifCond .eq 7, 3) := by decide +kernel
theorem dX9_gift_32 : decode cX9_gift 32 = .ok (.iconst 1, 1) := by decide +kernel
theorem dX9_gift_33 : decode cX9_gift 33 = .ok (.goto 4, 3) := by decide +kernel
theorem dX9_gift_36 : decode cX9_gift 36 = .ok (.iconst 0, 1) := by decide +kernel
theorem dX9_gift_37 : decode cX9_gift 37 = .ok (.istore 6, 2) := by decide +kernel
theorem dX9_gift_39 : decode cX9_gift 39 = .ok (.iload_n 2, 1) := by decide +kernel
theorem dX9_gift_40 : decode cX9_gift 40 = .ok (.iconst (-1), 1) := by decide +kernel
theorem dX9_gift_41 : decode cX9_gift 41 = .ok (.if_icmp .ne 26, 3) := by decide +kernel
theorem dX9_gift_44 : decode cX9_gift 44 = .ok (.aload_n 0, 1) := by decide +kernel
theorem dX9_gift_45 : decode cX9_gift 45 = .ok (.iload_n 3, 1) := by decide +kernel
theorem dX9_gift_46 : decode cX9_gift 46 = .ok (.invokevirtual 112, 3) := by decide +kernel
theorem dX9_gift_49 : decode cX9_gift 49 = .ok (.ifCond .eq 18, 3) := by decide +kernel
theorem dX9_gift_52 : decode cX9_gift 52 = .ok (.iload 4, 2) := by decide +kernel
theorem dX9_gift_54 : decode cX9_gift 54 = .ok (.iconst 0, 1) := by decide +kernel
theorem dX9_gift_55 : decode cX9_gift 55 = .ok (.bipush 9, 2) := by decide +kernel
theorem dX9_gift_57 : decode cX9_gift 57 = .ok (.invokestatic 86, 3) := by decide +kernel
theorem dX9_gift_60 : decode cX9_gift 60 = .ok (.ifCond .eq 7, 3) := by decide +kernel
theorem dX9_gift_63 : decode cX9_gift 63 = .ok (.iconst 1, 1) := by decide +kernel
theorem dX9_gift_64 : decode cX9_gift 64 = .ok (.goto 4, 3) := by decide +kernel
theorem dX9_gift_67 : decode cX9_gift 67 = .ok (.iconst 0, 1) := by decide +kernel
theorem dX9_gift_68 : decode cX9_gift 68 = .ok (.istore 7, 2) := by decide +kernel
theorem dX9_gift_70 : decode cX9_gift 70 = .ok (.aload 5, 2) := by decide +kernel
theorem dX9_gift_72 : decode cX9_gift 72 = .ok (.ifnull 13, 3) := by decide +kernel
theorem dX9_gift_75 : decode cX9_gift 75 = .ok (.iload 6, 2) := by decide +kernel
theorem dX9_gift_77 : decode cX9_gift 77 = .ok (.ifCond .ne 10, 3) := by decide +kernel
theorem dX9_gift_80 : decode cX9_gift 80 = .ok (.iload 7, 2) := by decide +kernel
theorem dX9_gift_82 : decode cX9_gift 82 = .ok (.ifCond .ne 5, 3) := by decide +kernel
theorem dX9_gift_85 : decode cX9_gift 85 = .ok (.iconst (-1), 1) := by decide +kernel
theorem dX9_gift_86 : decode cX9_gift 86 = .ok (.ireturn, 1) := by decide +kernel
theorem dX9_gift_87 : decode cX9_gift 87 = .ok (.iload 6, 2) := by decide +kernel
theorem dX9_gift_89 : decode cX9_gift 89 = .ok (.ifCond .eq 14, 3) := by decide +kernel
theorem dX9_gift_92 : decode cX9_gift 92 = .ok (.aload 5, 2) := by decide +kernel
theorem dX9_gift_94 : decode cX9_gift 94 = .ok (.iload_n 2, 1) := by decide +kernel
theorem dX9_gift_95 : decode cX9_gift 95 = .ok (.iload 4, 2) := by decide +kernel
theorem dX9_gift_97 : decode cX9_gift 97 = .ok (.invokevirtual 118, 3) := by decide +kernel
theorem dX9_gift_100 : decode cX9_gift 100 = .ok (.goto 11, 3) := by decide +kernel
theorem dX9_gift_103 : decode cX9_gift 103 = .ok (.aload 5, 2) := by decide +kernel
theorem dX9_gift_105 : decode cX9_gift 105 = .ok (.iload_n 3, 1) := by decide +kernel
theorem dX9_gift_106 : decode cX9_gift 106 = .ok (.iload 4, 2) := by decide +kernel
theorem dX9_gift_108 : decode cX9_gift 108 = .ok (.invokevirtual 121, 3) := by decide +kernel
theorem dX9_gift_111 : decode cX9_gift 111 = .ok (.ireturn, 1) := by decide +kernel
theorem dX9_middle_0 : decode cX9_middle 0 = .ok (.aload_n 0, 1) := by decide +kernel
theorem dX9_middle_1 : decode cX9_middle 1 = .ok (.iload_n 1, 1) := by decide +kernel
theorem dX9_middle_2 : decode cX9_middle 2 = .ok (.invokevirtual 102, 3) := by decide +kernel
theorem dX9_middle_5 : decode cX9_middle 5 = .ok (.astore 4, 2) := by decide +kernel
theorem dX9_middle_7 : decode cX9_middle 7 = .ok (.aload 4, 2) := by decide +kernel
theorem dX9_middle_9 : decode cX9_middle 9 = .ok (.ifnull 25, 3) := by decide +kernel
theorem dX9_middle_12 : decode cX9_middle 12 = .ok (.iload_n 2, 1) := by decide +kernel
theorem dX9_middle_13 : decode cX9_middle 13 = .ok (.iconst 0, 1) := by decide +kernel
theorem dX9_middle_14 : decode cX9_middle 14 = .ok (.aload_n 0, 1) := by decide +kernel
theorem dX9_middle_15 : decode cX9_middle 15 = .ok (.getfield 18, 3) := by decide +kernel
theorem dX9_middle_18 : decode cX9_middle 18 = .ok (.iconst 2, 1) := by decide +kernel
theorem dX9_middle_19 : decode cX9_middle 19 = .ok (.isub, 1) := by decide +kernel
theorem dX9_middle_20 : decode cX9_middle 20 = .ok (.invokestatic 86, 3) := by decide +kernel
theorem dX9_middle_23 : decode cX9_middle 23 = .ok (.ifCond .eq 11, 3) := by decide +kernel
theorem dX9_middle_26 : decode cX9_middle 26 = .ok (.aload_n 0, 1) := by decide +kernel
theorem dX9_middle_27 : decode cX9_middle 27 = .ok (.iload_n 3, 1) := by decide +kernel
theorem dX9_middle_28 : decode cX9_middle 28 = .ok (.invokevirtual 83, 3) := by decide +kernel
theorem dX9_middle_31 : decode cX9_middle 31 = .ok (.ifCond .ne 5, 3) := by decide +kernel
theorem dX9_middle_34 : decode cX9_middle 34 = .ok (.iconst (-1), 1) := by decide +kernel
theorem dX9_middle_35 : decode cX9_middle 35 = .ok (.ireturn, 1) := by decide +kernel
theorem dX9_middle_36 : decode cX9_middle 36 = .ok (.aload 4, 2) := by decide +kernel
theorem dX9_middle_38 : decode cX9_middle 38 = .ok (.iload_n 2, 1) := by decide +kernel
theorem dX9_middle_39 : decode cX9_middle 39 = .ok (.iload_n 3, 1) := by decide +kernel
theorem dX9_middle_40 : decode cX9_middle 40 = .ok (.invokevirtual 124, 3) := by decide +kernel
theorem dX9_middle_43 : decode cX9_middle 43 = .ok (.ireturn, 1) := by decide +kernel
theorem dX9_end_0 : decode cX9_end 0 = .ok (.aload_n 0, 1) := by decide +kernel
theorem dX9_end_1 : decode cX9_end 1 = .ok (.iload_n 1, 1) := by decide +kernel
theorem dX9_end_2 : decode cX9_end 2 = .ok (.invokevirtual 102, 3) := by decide +kernel
theorem dX9_end_5 : decode cX9_end 5 = .ok (.astore_n 3, 1) := by decide +kernel
theorem dX9_end_6 : decode cX9_end 6 = .ok (.aload_n 3, 1) := by decide +kernel
theorem dX9_end_7 : decode cX9_end 7 = .ok (.ifnull 11, 3) := by decide +kernel
theorem dX9_end_10 : decode cX9_end 10 = .ok (.aload_n 0, 1) := by decide +kernel
theorem dX9_end_11 : decode cX9_end 11 = .ok (.iload_n 2, 1) := by decide +kernel
theorem dX9_end_12 : decode cX9_end 12 = .ok (.invokevirtual 106, 3) := by decide +kernel
theorem dX9_end_15 : decode cX9_end 15 = .ok (.ifCond .ne 5, 3) := by decide +kernel
theorem dX9_end_18 : decode cX9_end 18 = .ok (.iconst (-1), 1) := by decide +kernel
theorem dX9_end_19 : decode cX9_end 19 = .ok (.ireturn, 1) := by decide +kernel
theorem dX9_end_20 : decode cX9_end 20 = .ok (.aload_n 3, 1) := by decide +kernel
theorem dX9_end_21 : decode cX9_end 21 = .ok (.iload_n 2, 1) := by decide +kernel
theorem dX9_end_22 : decode cX9_end 22 = .ok (.invokevirtual 127, 3) := by decide +kernel
theorem dX9_end_25 : decode cX9_end 25 = .ok (.aload_n 3, 1) := by decide +kernel
theorem dX9_end_26 : decode cX9_end 26 = .ok (.iload_n 2, 1) := by decide +kernel
theorem dX9_end_27 : decode cX9_end 27 = .ok (.invokevirtual 130, 3) := by decide +kernel
theorem dX9_end_30 : decode cX9_end 30 = .ok (.ireturn, 1) := by decide +kernel
theorem dX9_pays_0 : decode cX9_pays 0 = .ok (.aload_n 0, 1) := by decide +kernel
theorem dX9_pays_1 : decode cX9_pays 1 = .ok (.iload_n 1, 1) := by decide +kernel
theorem dX9_pays_2 : decode cX9_pays 2 = .ok (.invokevirtual 102, 3) := by decide +kernel
theorem dX9_pays_5 : decode cX9_pays 5 = .ok (.astore 4, 2) := by decide +kernel
theorem dX9_pays_7 : decode cX9_pays 7 = .ok (.aload 4, 2) := by decide +kernel
theorem dX9_pays_9 : decode cX9_pays 9 = .ok (.ifnull 19, 3) := by decide +kernel
theorem dX9_pays_12 : decode cX9_pays 12 = .ok (.aload_n 0, 1) := by decide +kernel
theorem dX9_pays_13 : decode cX9_pays 13 = .ok (.iload_n 2, 1) := by decide +kernel
theorem dX9_pays_14 : decode cX9_pays 14 = .ok (.invokevirtual 106, 3) := by decide +kernel
theorem dX9_pays_17 : decode cX9_pays 17 = .ok (.ifCond .eq 11, 3) := by decide +kernel
theorem dX9_pays_20 : decode cX9_pays 20 = .ok (.aload_n 0, 1) := by decide +kernel
theorem dX9_pays_21 : decode cX9_pays 21 = .ok (.iload_n 3, 1) := by decide +kernel
theorem dX9_pays_22 : decode cX9_pays 22 = .ok (.invokevirtual 112, 3) := by decide +kernel
theorem dX9_pays_25 : decode cX9_pays 25 = .ok (.ifCond .ne 13, 3) := by decide +kernel
theorem dX9_pays_28 : decode cX9_pays 28 = .ok (.new 134, 3) := by decide +kernel
theorem dX9_pays_31 : decode cX9_pays 31 = .ok (.dup, 1) := by decide +kernel
theorem dX9_pays_32 : decode cX9_pays 32 = .ok (.ldc 136, 2) := by decide +kernel
theorem dX9_pays_34 : decode cX9_pays 34 = .ok (.invokespecial 138, 3) := by decide +kernel
theorem dX9_pays_37 : decode cX9_pays 37 = .ok (.athrow, 1) := by decide +kernel
theorem dX9_pays_38 : decode cX9_pays 38 = .ok (.aload 4, 2) := by decide +kernel
theorem dX9_pays_40 : decode cX9_pays 40 = .ok (.iload_n 2, 1) := by decide +kernel
theorem dX9_pays_41 : decode cX9_pays 41 = .ok (.invokevirtual 127, 3) := by decide +kernel
theorem dX9_pays_44 : decode cX9_pays 44 = .ok (.aload 4, 2) := by decide +kernel
theorem dX9_pays_46 : decode cX9_pays 46 = .ok (.iload_n 2, 1) := by decide +kernel
theorem dX9_pays_47 : decode cX9_pays 47 = .ok (.iload_n 3, 1) := by decide +kernel
theorem dX9_pays_48 : decode cX9_pays 48 = .ok (.invokevirtual 141, 3) := by decide +kernel
theorem dX9_pays_51 : decode cX9_pays 51 = .ok (.ireturn, 1) := by decide +kernel
theorem dX9_said_0 : decode cX9_said 0 = .ok (.aload_n 0, 1) := by decide +kernel
theorem dX9_said_1 : decode cX9_said 1 = .ok (.iload_n 1, 1) := by decide +kernel
theorem dX9_said_2 : decode cX9_said 2 = .ok (.invokevirtual 106, 3) := by decide +kernel
theorem dX9_said_5 : decode cX9_said 5 = .ok (.ifCond .eq 19, 3) := by decide +kernel
theorem dX9_said_8 : decode cX9_said 8 = .ok (.aload_n 0, 1) := by decide +kernel
theorem dX9_said_9 : decode cX9_said 9 = .ok (.iload_n 2, 1) := by decide +kernel
theorem dX9_said_10 : decode cX9_said 10 = .ok (.invokevirtual 112, 3) := by decide +kernel
theorem dX9_said_13 : decode cX9_said 13 = .ok (.ifCond .eq 11, 3) := by decide +kernel
theorem dX9_said_16 : decode cX9_said 16 = .ok (.aload_n 0, 1) := by decide +kernel
theorem dX9_said_17 : decode cX9_said 17 = .ok (.iload_n 3, 1) := by decide +kernel
theorem dX9_said_18 : decode cX9_said 18 = .ok (.invokevirtual 79, 3) := by decide +kernel
theorem dX9_said_21 : decode cX9_said 21 = .ok (.ifCond .ne 5, 3) := by decide +kernel
theorem dX9_said_24 : decode cX9_said 24 = .ok (.iconst (-1), 1) := by decide +kernel
theorem dX9_said_25 : decode cX9_said 25 = .ok (.ireturn, 1) := by decide +kernel
theorem dX9_said_26 : decode cX9_said 26 = .ok (.aload_n 0, 1) := by decide +kernel
theorem dX9_said_27 : decode cX9_said 27 = .ok (.getfield 27, 3) := by decide +kernel
theorem dX9_said_30 : decode cX9_said 30 = .ok (.iload_n 1, 1) := by decide +kernel
theorem dX9_said_31 : decode cX9_said 31 = .ok (.iload_n 2, 1) := by decide +kernel
theorem dX9_said_32 : decode cX9_said 32 = .ok (.iload_n 3, 1) := by decide +kernel
theorem dX9_said_33 : decode cX9_said 33 = .ok (.invokevirtual 144, 3) := by decide +kernel
theorem dX9_said_36 : decode cX9_said 36 = .ok (.ireturn, 1) := by decide +kernel
theorem dX9_gain_0 : decode cX9_gain 0 = .ok (.aload_n 0, 1) := by decide +kernel
theorem dX9_gain_1 : decode cX9_gain 1 = .ok (.iload_n 1, 1) := by decide +kernel
theorem dX9_gain_2 : decode cX9_gain 2 = .ok (.invokevirtual 102, 3) := by decide +kernel
theorem dX9_gain_5 : decode cX9_gain 5 = .ok (.astore 5, 2) := by decide +kernel
theorem dX9_gain_7 : decode cX9_gain 7 = .ok (.aload 5, 2) := by decide +kernel
theorem dX9_gain_9 : decode cX9_gain 9 = .ok (.ifnull 28, 3) := by decide +kernel
theorem dX9_gain_12 : decode cX9_gain 12 = .ok (.aload_n 0, 1) := by decide +kernel
theorem dX9_gain_13 : decode cX9_gain 13 = .ok (.iload_n 2, 1) := by decide +kernel
theorem dX9_gain_14 : decode cX9_gain 14 = .ok (.invokevirtual 106, 3) := by decide +kernel
theorem dX9_gain_17 : decode cX9_gain 17 = .ok (.ifCond .eq 20, 3) := by decide +kernel
theorem dX9_gain_20 : decode cX9_gain 20 = .ok (.aload_n 0, 1) := by decide +kernel
theorem dX9_gain_21 : decode cX9_gain 21 = .ok (.iload_n 3, 1) := by decide +kernel
theorem dX9_gain_22 : decode cX9_gain 22 = .ok (.invokevirtual 112, 3) := by decide +kernel
theorem dX9_gain_25 : decode cX9_gain 25 = .ok (.ifCond .eq 12, 3) := by decide +kernel
theorem dX9_gain_28 : decode cX9_gain 28 = .ok (.aload_n 0, 1) := by decide +kernel
theorem dX9_gain_29 : decode cX9_gain 29 = .ok (.iload 4, 2) := by decide +kernel
theorem dX9_gain_31 : decode cX9_gain 31 = .ok (.invokevirtual 79, 3) := by decide +kernel
theorem dX9_gain_34 : decode cX9_gain 34 = .ok (.ifCond .ne 13, 3) := by decide +kernel
theorem dX9_gain_37 : decode cX9_gain 37 = .ok (.new 134, 3) := by decide +kernel
theorem dX9_gain_40 : decode cX9_gain 40 = .ok (.dup, 1) := by decide +kernel
theorem dX9_gain_41 : decode cX9_gain 41 = .ok (.ldc 147, 2) := by decide +kernel
theorem dX9_gain_43 : decode cX9_gain 43 = .ok (.invokespecial 138, 3) := by decide +kernel
theorem dX9_gain_46 : decode cX9_gain 46 = .ok (.athrow, 1) := by decide +kernel
theorem dX9_gain_47 : decode cX9_gain 47 = .ok (.aload_n 0, 1) := by decide +kernel
theorem dX9_gain_48 : decode cX9_gain 48 = .ok (.getfield 27, 3) := by decide +kernel
theorem dX9_gain_51 : decode cX9_gain 51 = .ok (.iload_n 2, 1) := by decide +kernel
theorem dX9_gain_52 : decode cX9_gain 52 = .ok (.iload_n 3, 1) := by decide +kernel
theorem dX9_gain_53 : decode cX9_gain 53 = .ok (.invokevirtual 149, 3) := by decide +kernel
theorem dX9_gain_56 : decode cX9_gain 56 = .ok (.istore 6, 2) := by decide +kernel
theorem dX9_gain_58 : decode cX9_gain 58 = .ok (.aload_n 0, 1) := by decide +kernel
theorem dX9_gain_59 : decode cX9_gain 59 = .ok (.getfield 27, 3) := by decide +kernel
theorem dX9_gain_62 : decode cX9_gain 62 = .ok (.iload_n 2, 1) := by decide +kernel
theorem dX9_gain_63 : decode cX9_gain 63 = .ok (.iload_n 3, 1) := by decide +kernel
theorem dX9_gain_64 : decode cX9_gain 64 = .ok (.iload 4, 2) := by decide +kernel
theorem dX9_gain_66 : decode cX9_gain 66 = .ok (.invokevirtual 144, 3) := by decide +kernel
theorem dX9_gain_69 : decode cX9_gain 69 = .ok (.istore 7, 2) := by decide +kernel
theorem dX9_gain_71 : decode cX9_gain 71 = .ok (.aload 5, 2) := by decide +kernel
theorem dX9_gain_73 : decode cX9_gain 73 = .ok (.iload_n 2, 1) := by decide +kernel
theorem dX9_gain_74 : decode cX9_gain 74 = .ok (.invokevirtual 127, 3) := by decide +kernel
theorem dX9_gain_77 : decode cX9_gain 77 = .ok (.aload 5, 2) := by decide +kernel
theorem dX9_gain_79 : decode cX9_gain 79 = .ok (.iload 7, 2) := by decide +kernel
theorem dX9_gain_81 : decode cX9_gain 81 = .ok (.invokevirtual 127, 3) := by decide +kernel
theorem dX9_gain_84 : decode cX9_gain 84 = .ok (.aload 5, 2) := by decide +kernel
theorem dX9_gain_86 : decode cX9_gain 86 = .ok (.iload 7, 2) := by decide +kernel
theorem dX9_gain_88 : decode cX9_gain 88 = .ok (.iload_n 3, 1) := by decide +kernel
theorem dX9_gain_89 : decode cX9_gain 89 = .ok (.iload 6, 2) := by decide +kernel
theorem dX9_gain_91 : decode cX9_gain 91 = .ok (.invokevirtual 152, 3) := by decide +kernel
theorem dX9_gain_94 : decode cX9_gain 94 = .ok (.aload 5, 2) := by decide +kernel
theorem dX9_gain_96 : decode cX9_gain 96 = .ok (.iload_n 2, 1) := by decide +kernel
theorem dX9_gain_97 : decode cX9_gain 97 = .ok (.iload_n 3, 1) := by decide +kernel
theorem dX9_gain_98 : decode cX9_gain 98 = .ok (.iload 6, 2) := by decide +kernel
theorem dX9_gain_100 : decode cX9_gain 100 = .ok (.invokevirtual 152, 3) := by decide +kernel
theorem dX9_gain_103 : decode cX9_gain 103 = .ok (.isub, 1) := by decide +kernel
theorem dX9_gain_104 : decode cX9_gain 104 = .ok (.ireturn, 1) := by decide +kernel
theorem dX9_lie_0 : decode cX9_lie 0 = .ok (.aload_n 0, 1) := by decide +kernel
theorem dX9_lie_1 : decode cX9_lie 1 = .ok (.iload_n 1, 1) := by decide +kernel
theorem dX9_lie_2 : decode cX9_lie 2 = .ok (.invokevirtual 155, 3) := by decide +kernel
theorem dX9_lie_5 : decode cX9_lie 5 = .ok (.astore_n 3, 1) := by decide +kernel
theorem dX9_lie_6 : decode cX9_lie 6 = .ok (.aload_n 3, 1) := by decide +kernel
theorem dX9_lie_7 : decode cX9_lie 7 = .ok (.ifnull 12, 3) := by decide +kernel
theorem dX9_lie_10 : decode cX9_lie 10 = .ok (.iload_n 2, 1) := by decide +kernel
theorem dX9_lie_11 : decode cX9_lie 11 = .ok (.iconst 0, 1) := by decide +kernel
theorem dX9_lie_12 : decode cX9_lie 12 = .ok (.iconst 3, 1) := by decide +kernel
theorem dX9_lie_13 : decode cX9_lie 13 = .ok (.invokestatic 86, 3) := by decide +kernel
theorem dX9_lie_16 : decode cX9_lie 16 = .ok (.ifCond .ne 7, 3) := by decide +kernel
theorem dX9_lie_19 : decode cX9_lie 19 = .ok (.iconst (-1), 1) := by decide +kernel
theorem dX9_lie_20 : decode cX9_lie 20 = .ok (.goto 9, 3) := by decide +kernel
theorem dX9_lie_23 : decode cX9_lie 23 = .ok (.aload_n 0, 1) := by decide +kernel
theorem dX9_lie_24 : decode cX9_lie 24 = .ok (.aload_n 3, 1) := by decide +kernel
theorem dX9_lie_25 : decode cX9_lie 25 = .ok (.iload_n 2, 1) := by decide +kernel
theorem dX9_lie_26 : decode cX9_lie 26 = .ok (.invokevirtual 158, 3) := by decide +kernel
theorem dX9_lie_29 : decode cX9_lie 29 = .ok (.ireturn, 1) := by decide +kernel
theorem dX9_lies_0 : decode cX9_lies 0 = .ok (.aload_n 0, 1) := by decide +kernel
theorem dX9_lies_1 : decode cX9_lies 1 = .ok (.iload_n 1, 1) := by decide +kernel
theorem dX9_lies_2 : decode cX9_lies 2 = .ok (.invokevirtual 155, 3) := by decide +kernel
theorem dX9_lies_5 : decode cX9_lies 5 = .ok (.astore_n 2, 1) := by decide +kernel
theorem dX9_lies_6 : decode cX9_lies 6 = .ok (.aload_n 2, 1) := by decide +kernel
theorem dX9_lies_7 : decode cX9_lies 7 = .ok (.ifnonnull 5, 3) := by decide +kernel
theorem dX9_lies_10 : decode cX9_lies 10 = .ok (.iconst (-1), 1) := by decide +kernel
theorem dX9_lies_11 : decode cX9_lies 11 = .ok (.ireturn, 1) := by decide +kernel
theorem dX9_lies_12 : decode cX9_lies 12 = .ok (.iconst 0, 1) := by decide +kernel
theorem dX9_lies_13 : decode cX9_lies 13 = .ok (.istore_n 3, 1) := by decide +kernel
theorem dX9_lies_14 : decode cX9_lies 14 = .ok (.iconst 0, 1) := by decide +kernel
theorem dX9_lies_15 : decode cX9_lies 15 = .ok (.istore 4, 2) := by decide +kernel
theorem dX9_lies_17 : decode cX9_lies 17 = .ok (.iload 4, 2) := by decide +kernel
theorem dX9_lies_19 : decode cX9_lies 19 = .ok (.aload_n 0, 1) := by decide +kernel
theorem dX9_lies_20 : decode cX9_lies 20 = .ok (.getfield 27, 3) := by decide +kernel
theorem dX9_lies_23 : decode cX9_lies 23 = .ok (.getfield 162, 3) := by decide +kernel
theorem dX9_lies_26 : decode cX9_lies 26 = .ok (.if_icmp .ge 39, 3) := by decide +kernel
theorem dX9_lies_29 : decode cX9_lies 29 = .ok (.iconst 0, 1) := by decide +kernel
theorem dX9_lies_30 : decode cX9_lies 30 = .ok (.istore 5, 2) := by decide +kernel
theorem dX9_lies_32 : decode cX9_lies 32 = .ok (.iload 5, 2) := by decide +kernel
theorem dX9_lies_34 : decode cX9_lies 34 = .ok (.aload_n 0, 1) := by decide +kernel
theorem dX9_lies_35 : decode cX9_lies 35 = .ok (.getfield 18, 3) := by decide +kernel
theorem dX9_lies_38 : decode cX9_lies 38 = .ok (.if_icmp .ge 21, 3) := by decide +kernel
theorem dX9_lies_41 : decode cX9_lies 41 = .ok (.iload_n 3, 1) := by decide +kernel
theorem dX9_lies_42 : decode cX9_lies 42 = .ok (.aload_n 0, 1) := by decide +kernel
theorem dX9_lies_43 : decode cX9_lies 43 = .ok (.aload_n 2, 1) := by decide +kernel
theorem dX9_lies_44 : decode cX9_lies 44 = .ok (.iload 4, 2) := by decide +kernel
theorem dX9_lies_46 : decode cX9_lies 46 = .ok (.iload 5, 2) := by decide +kernel
theorem dX9_lies_48 : decode cX9_lies 48 = .ok (.invokevirtual 165, 3) := by decide +kernel
theorem dX9_lies_51 : decode cX9_lies 51 = .ok (.iadd, 1) := by decide +kernel
theorem dX9_lies_52 : decode cX9_lies 52 = .ok (.istore_n 3, 1) := by decide +kernel
theorem dX9_lies_53 : decode cX9_lies 53 = .ok (.iinc 5 1, 3) := by decide +kernel
theorem dX9_lies_56 : decode cX9_lies 56 = .ok (.goto (-24), 3) := by decide +kernel
theorem dX9_lies_59 : decode cX9_lies 59 = .ok (.iinc 4 1, 3) := by decide +kernel
theorem dX9_lies_62 : decode cX9_lies 62 = .ok (.goto (-45), 3) := by decide +kernel
theorem dX9_lies_65 : decode cX9_lies 65 = .ok (.iload_n 3, 1) := by decide +kernel
theorem dX9_lies_66 : decode cX9_lies 66 = .ok (.ireturn, 1) := by decide +kernel
theorem dX9_heap_0 : decode cX9_heap 0 = .ok (.aload_n 0, 1) := by decide +kernel
theorem dX9_heap_1 : decode cX9_heap 1 = .ok (.iload_n 1, 1) := by decide +kernel
theorem dX9_heap_2 : decode cX9_heap 2 = .ok (.invokevirtual 155, 3) := by decide +kernel
theorem dX9_heap_5 : decode cX9_heap 5 = .ok (.astore 4, 2) := by decide +kernel
theorem dX9_heap_7 : decode cX9_heap 7 = .ok (.aload 4, 2) := by decide +kernel
theorem dX9_heap_9 : decode cX9_heap 9 = .ok (.ifnull 19, 3) := by decide +kernel
theorem dX9_heap_12 : decode cX9_heap 12 = .ok (.iload_n 2, 1) := by decide +kernel
theorem dX9_heap_13 : decode cX9_heap 13 = .ok (.iconst 1, 1) := by decide +kernel
theorem dX9_heap_14 : decode cX9_heap 14 = .ok (.iconst 1, 1) := by decide +kernel
theorem dX9_heap_15 : decode cX9_heap 15 = .ok (.aload_n 0, 1) := by decide +kernel
theorem dX9_heap_16 : decode cX9_heap 16 = .ok (.getfield 18, 3) := by decide +kernel
theorem dX9_heap_19 : decode cX9_heap 19 = .ok (.ishl, 1) := by decide +kernel
theorem dX9_heap_20 : decode cX9_heap 20 = .ok (.iconst 1, 1) := by decide +kernel
theorem dX9_heap_21 : decode cX9_heap 21 = .ok (.isub, 1) := by decide +kernel
theorem dX9_heap_22 : decode cX9_heap 22 = .ok (.invokestatic 86, 3) := by decide +kernel
theorem dX9_heap_25 : decode cX9_heap 25 = .ok (.ifCond .ne 5, 3) := by decide +kernel
theorem dX9_heap_28 : decode cX9_heap 28 = .ok (.iconst (-1), 1) := by decide +kernel
theorem dX9_heap_29 : decode cX9_heap 29 = .ok (.ireturn, 1) := by decide +kernel
theorem dX9_heap_30 : decode cX9_heap 30 = .ok (.aload_n 0, 1) := by decide +kernel
theorem dX9_heap_31 : decode cX9_heap 31 = .ok (.getfield 42, 3) := by decide +kernel
theorem dX9_heap_34 : decode cX9_heap 34 = .ok (.aload 4, 2) := by decide +kernel
theorem dX9_heap_36 : decode cX9_heap 36 = .ok (.iload_n 2, 1) := by decide +kernel
theorem dX9_heap_37 : decode cX9_heap 37 = .ok (.invokevirtual 169, 3) := by decide +kernel
theorem dX9_heap_40 : decode cX9_heap 40 = .ok (.istore 5, 2) := by decide +kernel
theorem dX9_heap_42 : decode cX9_heap 42 = .ok (.iload 5, 2) := by decide +kernel
theorem dX9_heap_44 : decode cX9_heap 44 = .ok (.aload_n 0, 1) := by decide +kernel
theorem dX9_heap_45 : decode cX9_heap 45 = .ok (.getfield 27, 3) := by decide +kernel
theorem dX9_heap_48 : decode cX9_heap 48 = .ok (.getfield 162, 3) := by decide +kernel
theorem dX9_heap_51 : decode cX9_heap 51 = .ok (.if_icmp .lt 6, 3) := by decide +kernel
theorem dX9_heap_54 : decode cX9_heap 54 = .ok (.bipush (-2), 2) := by decide +kernel
theorem dX9_heap_56 : decode cX9_heap 56 = .ok (.ireturn, 1) := by decide +kernel
theorem dX9_heap_57 : decode cX9_heap 57 = .ok (.iload_n 3, 1) := by decide +kernel
theorem dX9_heap_58 : decode cX9_heap 58 = .ok (.ifCond .eq 17, 3) := by decide +kernel
theorem dX9_heap_61 : decode cX9_heap 61 = .ok (.aload_n 0, 1) := by decide +kernel
theorem dX9_heap_62 : decode cX9_heap 62 = .ok (.getfield 42, 3) := by decide +kernel
theorem dX9_heap_65 : decode cX9_heap 65 = .ok (.aload 4, 2) := by decide +kernel
theorem dX9_heap_67 : decode cX9_heap 67 = .ok (.iload 5, 2) := by decide +kernel
theorem dX9_heap_69 : decode cX9_heap 69 = .ok (.invokevirtual 172, 3) := by decide +kernel
theorem dX9_heap_72 : decode cX9_heap 72 = .ok (.goto 5, 3) := by decide +kernel
theorem dX9_heap_75 : decode cX9_heap 75 = .ok (.iload 5, 2) := by decide +kernel
theorem dX9_heap_77 : decode cX9_heap 77 = .ok (.ireturn, 1) := by decide +kernel
theorem dX9_onto_0 : decode cX9_onto 0 = .ok (.aload_n 0, 1) := by decide +kernel
theorem dX9_onto_1 : decode cX9_onto 1 = .ok (.iload_n 1, 1) := by decide +kernel
theorem dX9_onto_2 : decode cX9_onto 2 = .ok (.invokevirtual 155, 3) := by decide +kernel
theorem dX9_onto_5 : decode cX9_onto 5 = .ok (.astore_n 2, 1) := by decide +kernel
theorem dX9_onto_6 : decode cX9_onto 6 = .ok (.aload_n 2, 1) := by decide +kernel
theorem dX9_onto_7 : decode cX9_onto 7 = .ok (.ifnonnull 5, 3) := by decide +kernel
theorem dX9_onto_10 : decode cX9_onto 10 = .ok (.iconst (-1), 1) := by decide +kernel
theorem dX9_onto_11 : decode cX9_onto 11 = .ok (.ireturn, 1) := by decide +kernel
theorem dX9_onto_12 : decode cX9_onto 12 = .ok (.iconst 0, 1) := by decide +kernel
theorem dX9_onto_13 : decode cX9_onto 13 = .ok (.istore_n 3, 1) := by decide +kernel
theorem dX9_onto_14 : decode cX9_onto 14 = .ok (.iconst 0, 1) := by decide +kernel
theorem dX9_onto_15 : decode cX9_onto 15 = .ok (.istore 4, 2) := by decide +kernel
theorem dX9_onto_17 : decode cX9_onto 17 = .ok (.iload 4, 2) := by decide +kernel
theorem dX9_onto_19 : decode cX9_onto 19 = .ok (.aload_n 0, 1) := by decide +kernel
theorem dX9_onto_20 : decode cX9_onto 20 = .ok (.getfield 27, 3) := by decide +kernel
theorem dX9_onto_23 : decode cX9_onto 23 = .ok (.getfield 162, 3) := by decide +kernel
theorem dX9_onto_26 : decode cX9_onto 26 = .ok (.if_icmp .ge 20, 3) := by decide +kernel
theorem dX9_onto_29 : decode cX9_onto 29 = .ok (.iload_n 3, 1) := by decide +kernel
theorem dX9_onto_30 : decode cX9_onto 30 = .ok (.iconst 1, 1) := by decide +kernel
theorem dX9_onto_31 : decode cX9_onto 31 = .ok (.aload_n 2, 1) := by decide +kernel
theorem dX9_onto_32 : decode cX9_onto 32 = .ok (.iload 4, 2) := by decide +kernel
theorem dX9_onto_34 : decode cX9_onto 34 = .ok (.invokevirtual 130, 3) := by decide +kernel
theorem dX9_onto_37 : decode cX9_onto 37 = .ok (.ishl, 1) := by decide +kernel
theorem dX9_onto_38 : decode cX9_onto 38 = .ok (.ior, 1) := by decide +kernel
theorem dX9_onto_39 : decode cX9_onto 39 = .ok (.istore_n 3, 1) := by decide +kernel
theorem dX9_onto_40 : decode cX9_onto 40 = .ok (.iinc 4 1, 3) := by decide +kernel
theorem dX9_onto_43 : decode cX9_onto 43 = .ok (.goto (-26), 3) := by decide +kernel
theorem dX9_onto_46 : decode cX9_onto 46 = .ok (.iload_n 3, 1) := by decide +kernel
theorem dX9_onto_47 : decode cX9_onto 47 = .ok (.invokestatic 175, 3) := by decide +kernel
theorem dX9_onto_50 : decode cX9_onto 50 = .ok (.ireturn, 1) := by decide +kernel
theorem dX9_dictator_0 : decode cX9_dictator 0 = .ok (.aload_n 0, 1) := by decide +kernel
theorem dX9_dictator_1 : decode cX9_dictator 1 = .ok (.iload_n 1, 1) := by decide +kernel
theorem dX9_dictator_2 : decode cX9_dictator 2 = .ok (.invokevirtual 155, 3) := by decide +kernel
theorem dX9_dictator_5 : decode cX9_dictator 5 = .ok (.astore_n 2, 1) := by decide +kernel
theorem dX9_dictator_6 : decode cX9_dictator 6 = .ok (.aload_n 2, 1) := by decide +kernel
theorem dX9_dictator_7 : decode cX9_dictator 7 = .ok (.ifnonnull 5, 3) := by decide +kernel
theorem dX9_dictator_10 : decode cX9_dictator 10 = .ok (.iconst (-1), 1) := by decide +kernel
theorem dX9_dictator_11 : decode cX9_dictator 11 = .ok (.ireturn, 1) := by decide +kernel
theorem dX9_dictator_12 : decode cX9_dictator 12 = .ok (.iconst 0, 1) := by decide +kernel
theorem dX9_dictator_13 : decode cX9_dictator 13 = .ok (.istore_n 3, 1) := by decide +kernel
theorem dX9_dictator_14 : decode cX9_dictator 14 = .ok (.iload_n 3, 1) := by decide +kernel
theorem dX9_dictator_15 : decode cX9_dictator 15 = .ok (.aload_n 0, 1) := by decide +kernel
theorem dX9_dictator_16 : decode cX9_dictator 16 = .ok (.getfield 18, 3) := by decide +kernel
theorem dX9_dictator_19 : decode cX9_dictator 19 = .ok (.if_icmp .ge 20, 3) := by decide +kernel
theorem dX9_dictator_22 : decode cX9_dictator 22 = .ok (.aload_n 0, 1) := by decide +kernel
theorem dX9_dictator_23 : decode cX9_dictator 23 = .ok (.aload_n 2, 1) := by decide +kernel
theorem dX9_dictator_24 : decode cX9_dictator 24 = .ok (.iload_n 3, 1) := by decide +kernel
theorem dX9_dictator_25 : decode cX9_dictator 25 = .ok (.invokevirtual 180, 3) := by decide +kernel
theorem dX9_dictator_28 : decode cX9_dictator 28 = .ok (.ifCond .eq 5, 3) := by decide +kernel
theorem dX9_dictator_31 : decode cX9_dictator 31 = .ok (.iload_n 3, 1) := by decide +kernel
theorem dX9_dictator_32 : decode cX9_dictator 32 = .ok (.ireturn, 1) := by decide +kernel
theorem dX9_dictator_33 : decode cX9_dictator 33 = .ok (.iinc 3 1, 3) := by decide +kernel
theorem dX9_dictator_36 : decode cX9_dictator 36 = .ok (.goto (-22), 3) := by decide +kernel
theorem dX9_dictator_39 : decode cX9_dictator 39 = .ok (.bipush (-2), 2) := by decide +kernel
theorem dX9_dictator_41 : decode cX9_dictator 41 = .ok (.ireturn, 1) := by decide +kernel
theorem dX9_budget_0 : decode cX9_budget 0 = .ok (.aload_n 0, 1) := by decide +kernel
theorem dX9_budget_1 : decode cX9_budget 1 = .ok (.iload_n 1, 1) := by decide +kernel
theorem dX9_budget_2 : decode cX9_budget 2 = .ok (.invokevirtual 155, 3) := by decide +kernel
theorem dX9_budget_5 : decode cX9_budget 5 = .ok (.astore_n 3, 1) := by decide +kernel
theorem dX9_budget_6 : decode cX9_budget 6 = .ok (.aload_n 3, 1) := by decide +kernel
theorem dX9_budget_7 : decode cX9_budget 7 = .ok (.ifnonnull 13, 3) := by decide +kernel
theorem dX9_budget_10 : decode cX9_budget 10 = .ok (.new 134, 3) := by decide +kernel
theorem dX9_budget_13 : decode cX9_budget 13 = .ok (.dup, 1) := by decide +kernel
theorem dX9_budget_14 : decode cX9_budget 14 = .ok (.ldc 184, 2) := by decide +kernel
theorem dX9_budget_16 : decode cX9_budget 16 = .ok (.invokespecial 138, 3) := by decide +kernel
theorem dX9_budget_19 : decode cX9_budget 19 = .ok (.athrow, 1) := by decide +kernel
theorem dX9_budget_20 : decode cX9_budget 20 = .ok (.aload_n 0, 1) := by decide +kernel
theorem dX9_budget_21 : decode cX9_budget 21 = .ok (.aload_n 3, 1) := by decide +kernel
theorem dX9_budget_22 : decode cX9_budget 22 = .ok (.iconst 0, 1) := by decide +kernel
theorem dX9_budget_23 : decode cX9_budget 23 = .ok (.invokevirtual 186, 3) := by decide +kernel
theorem dX9_budget_26 : decode cX9_budget 26 = .ok (.istore 4, 2) := by decide +kernel
theorem dX9_budget_28 : decode cX9_budget 28 = .ok (.iconst 1, 1) := by decide +kernel
theorem dX9_budget_29 : decode cX9_budget 29 = .ok (.istore 5, 2) := by decide +kernel
theorem dX9_budget_31 : decode cX9_budget 31 = .ok (.iload 5, 2) := by decide +kernel
theorem dX9_budget_33 : decode cX9_budget 33 = .ok (.aload_n 0, 1) := by decide +kernel
theorem dX9_budget_34 : decode cX9_budget 34 = .ok (.getfield 27, 3) := by decide +kernel
theorem dX9_budget_37 : decode cX9_budget 37 = .ok (.getfield 162, 3) := by decide +kernel
theorem dX9_budget_40 : decode cX9_budget 40 = .ok (.if_icmp .ge 41, 3) := by decide +kernel
theorem dX9_budget_43 : decode cX9_budget 43 = .ok (.aload_n 0, 1) := by decide +kernel
theorem dX9_budget_44 : decode cX9_budget 44 = .ok (.aload_n 3, 1) := by decide +kernel
theorem dX9_budget_45 : decode cX9_budget 45 = .ok (.iload 5, 2) := by decide +kernel
theorem dX9_budget_47 : decode cX9_budget 47 = .ok (.invokevirtual 186, 3) := by decide +kernel
theorem dX9_budget_50 : decode cX9_budget 50 = .ok (.istore 6, 2) := by decide +kernel
theorem dX9_budget_52 : decode cX9_budget 52 = .ok (.iload_n 2, 1) := by decide +kernel
theorem dX9_budget_53 : decode cX9_budget 53 = .ok (.ifCond .eq 13, 3) := by decide +kernel
theorem dX9_budget_56 : decode cX9_budget 56 = .ok (.iload 4, 2) := by decide +kernel
theorem dX9_budget_58 : decode cX9_budget 58 = .ok (.iload 6, 2) := by decide +kernel
theorem dX9_budget_60 : decode cX9_budget 60 = .ok (.invokestatic 189, 3) := by decide +kernel
theorem dX9_budget_63 : decode cX9_budget 63 = .ok (.goto 10, 3) := by decide +kernel
theorem dX9_budget_66 : decode cX9_budget 66 = .ok (.iload 4, 2) := by decide +kernel
theorem dX9_budget_68 : decode cX9_budget 68 = .ok (.iload 6, 2) := by decide +kernel
theorem dX9_budget_70 : decode cX9_budget 70 = .ok (.invokestatic 192, 3) := by decide +kernel
theorem dX9_budget_73 : decode cX9_budget 73 = .ok (.istore 4, 2) := by decide +kernel
theorem dX9_budget_75 : decode cX9_budget 75 = .ok (.iinc 5 1, 3) := by decide +kernel
theorem dX9_budget_78 : decode cX9_budget 78 = .ok (.goto (-47), 3) := by decide +kernel
theorem dX9_budget_81 : decode cX9_budget 81 = .ok (.iload 4, 2) := by decide +kernel
theorem dX9_budget_83 : decode cX9_budget 83 = .ok (.i2l, 1) := by decide +kernel
theorem dX9_budget_84 : decode cX9_budget 84 = .ok (.lreturn, 1) := by decide +kernel
theorem dX9_welfare_0 : decode cX9_welfare 0 = .ok (.aload_n 0, 1) := by decide +kernel
theorem dX9_welfare_1 : decode cX9_welfare 1 = .ok (.iload_n 1, 1) := by decide +kernel
theorem dX9_welfare_2 : decode cX9_welfare 2 = .ok (.invokevirtual 155, 3) := by decide +kernel
theorem dX9_welfare_5 : decode cX9_welfare 5 = .ok (.astore_n 2, 1) := by decide +kernel
theorem dX9_welfare_6 : decode cX9_welfare 6 = .ok (.aload_n 2, 1) := by decide +kernel
theorem dX9_welfare_7 : decode cX9_welfare 7 = .ok (.ifnonnull 13, 3) := by decide +kernel
theorem dX9_welfare_10 : decode cX9_welfare 10 = .ok (.new 134, 3) := by decide +kernel
theorem dX9_welfare_13 : decode cX9_welfare 13 = .ok (.dup, 1) := by decide +kernel
theorem dX9_welfare_14 : decode cX9_welfare 14 = .ok (.ldc 184, 2) := by decide +kernel
theorem dX9_welfare_16 : decode cX9_welfare 16 = .ok (.invokespecial 138, 3) := by decide +kernel
theorem dX9_welfare_19 : decode cX9_welfare 19 = .ok (.athrow, 1) := by decide +kernel
theorem dX9_welfare_20 : decode cX9_welfare 20 = .ok (.lconst 0, 1) := by decide +kernel
theorem dX9_welfare_21 : decode cX9_welfare 21 = .ok (.lstore_n 3, 1) := by decide +kernel
theorem dX9_welfare_22 : decode cX9_welfare 22 = .ok (.iconst 0, 1) := by decide +kernel
theorem dX9_welfare_23 : decode cX9_welfare 23 = .ok (.istore 5, 2) := by decide +kernel
theorem dX9_welfare_25 : decode cX9_welfare 25 = .ok (.iload 5, 2) := by decide +kernel
theorem dX9_welfare_27 : decode cX9_welfare 27 = .ok (.aload_n 0, 1) := by decide +kernel
theorem dX9_welfare_28 : decode cX9_welfare 28 = .ok (.getfield 27, 3) := by decide +kernel
theorem dX9_welfare_31 : decode cX9_welfare 31 = .ok (.getfield 162, 3) := by decide +kernel
theorem dX9_welfare_34 : decode cX9_welfare 34 = .ok (.if_icmp .ge 59, 3) := by decide +kernel
theorem dX9_welfare_37 : decode cX9_welfare 37 = .ok (.aload_n 2, 1) := by decide +kernel
theorem dX9_welfare_38 : decode cX9_welfare 38 = .ok (.iload 5, 2) := by decide +kernel
theorem dX9_welfare_40 : decode cX9_welfare 40 = .ok (.invokevirtual 130, 3) := by decide +kernel
theorem dX9_welfare_43 : decode cX9_welfare 43 = .ok (.istore 6, 2) := by decide +kernel
theorem dX9_welfare_45 : decode cX9_welfare 45 = .ok (.iconst 0, 1) := by decide +kernel
theorem dX9_welfare_46 : decode cX9_welfare 46 = .ok (.istore 7, 2) := by decide +kernel
theorem dX9_welfare_48 : decode cX9_welfare 48 = .ok (.iload 7, 2) := by decide +kernel
theorem dX9_welfare_50 : decode cX9_welfare 50 = .ok (.aload_n 0, 1) := by decide +kernel
theorem dX9_welfare_51 : decode cX9_welfare 51 = .ok (.getfield 18, 3) := by decide +kernel
theorem dX9_welfare_54 : decode cX9_welfare 54 = .ok (.if_icmp .ge 33, 3) := by decide +kernel
theorem dX9_welfare_57 : decode cX9_welfare 57 = .ok (.lload_n 3, 1) := by decide +kernel
theorem dX9_welfare_58 : decode cX9_welfare 58 = .ok (.aload_n 0, 1) := by decide +kernel
theorem dX9_welfare_59 : decode cX9_welfare 59 = .ok (.getfield 27, 3) := by decide +kernel
theorem dX9_welfare_62 : decode cX9_welfare 62 = .ok (.aload_n 0, 1) := by decide +kernel
theorem dX9_welfare_63 : decode cX9_welfare 63 = .ok (.getfield 27, 3) := by decide +kernel
theorem dX9_welfare_66 : decode cX9_welfare 66 = .ok (.iload 5, 2) := by decide +kernel
theorem dX9_welfare_68 : decode cX9_welfare 68 = .ok (.iload 7, 2) := by decide +kernel
theorem dX9_welfare_70 : decode cX9_welfare 70 = .ok (.invokevirtual 149, 3) := by decide +kernel
theorem dX9_welfare_73 : decode cX9_welfare 73 = .ok (.iload 6, 2) := by decide +kernel
theorem dX9_welfare_75 : decode cX9_welfare 75 = .ok (.invokevirtual 195, 3) := by decide +kernel
theorem dX9_welfare_78 : decode cX9_welfare 78 = .ok (.i2l, 1) := by decide +kernel
theorem dX9_welfare_79 : decode cX9_welfare 79 = .ok (.ladd, 1) := by decide +kernel
theorem dX9_welfare_80 : decode cX9_welfare 80 = .ok (.lstore_n 3, 1) := by decide +kernel
theorem dX9_welfare_81 : decode cX9_welfare 81 = .ok (.iinc 7 1, 3) := by decide +kernel
theorem dX9_welfare_84 : decode cX9_welfare 84 = .ok (.goto (-36), 3) := by decide +kernel
theorem dX9_welfare_87 : decode cX9_welfare 87 = .ok (.iinc 5 1, 3) := by decide +kernel
theorem dX9_welfare_90 : decode cX9_welfare 90 = .ok (.goto (-65), 3) := by decide +kernel
theorem dX9_welfare_93 : decode cX9_welfare 93 = .ok (.lload_n 3, 1) := by decide +kernel
theorem dX9_welfare_94 : decode cX9_welfare 94 = .ok (.lreturn, 1) := by decide +kernel
theorem dX9_span_0 : decode cX9_span 0 = .ok (.aload_n 0, 1) := by decide +kernel
theorem dX9_span_1 : decode cX9_span 1 = .ok (.iload_n 1, 1) := by decide +kernel
theorem dX9_span_2 : decode cX9_span 2 = .ok (.invokevirtual 102, 3) := by decide +kernel
theorem dX9_span_5 : decode cX9_span 5 = .ok (.astore 6, 2) := by decide +kernel
theorem dX9_span_7 : decode cX9_span 7 = .ok (.aload 6, 2) := by decide +kernel
theorem dX9_span_9 : decode cX9_span 9 = .ok (.ifnull 37, 3) := by decide +kernel
theorem dX9_span_12 : decode cX9_span 12 = .ok (.aload_n 0, 1) := by decide +kernel
theorem dX9_span_13 : decode cX9_span 13 = .ok (.iload_n 2, 1) := by decide +kernel
theorem dX9_span_14 : decode cX9_span 14 = .ok (.invokevirtual 106, 3) := by decide +kernel
theorem dX9_span_17 : decode cX9_span 17 = .ok (.ifCond .eq 29, 3) := by decide +kernel
theorem dX9_span_20 : decode cX9_span 20 = .ok (.aload_n 0, 1) := by decide +kernel
theorem dX9_span_21 : decode cX9_span 21 = .ok (.iload_n 3, 1) := by decide +kernel
theorem dX9_span_22 : decode cX9_span 22 = .ok (.invokevirtual 112, 3) := by decide +kernel
theorem dX9_span_25 : decode cX9_span 25 = .ok (.ifCond .eq 21, 3) := by decide +kernel
theorem dX9_span_28 : decode cX9_span 28 = .ok (.aload_n 0, 1) := by decide +kernel
theorem dX9_span_29 : decode cX9_span 29 = .ok (.iload 4, 2) := by decide +kernel
theorem dX9_span_31 : decode cX9_span 31 = .ok (.invokevirtual 83, 3) := by decide +kernel
theorem dX9_span_34 : decode cX9_span 34 = .ok (.ifCond .eq 12, 3) := by decide +kernel
theorem dX9_span_37 : decode cX9_span 37 = .ok (.aload_n 0, 1) := by decide +kernel
theorem dX9_span_38 : decode cX9_span 38 = .ok (.iload 5, 2) := by decide +kernel
theorem dX9_span_40 : decode cX9_span 40 = .ok (.invokevirtual 83, 3) := by decide +kernel
theorem dX9_span_43 : decode cX9_span 43 = .ok (.ifCond .ne 13, 3) := by decide +kernel
theorem dX9_span_46 : decode cX9_span 46 = .ok (.new 134, 3) := by decide +kernel
theorem dX9_span_49 : decode cX9_span 49 = .ok (.dup, 1) := by decide +kernel
theorem dX9_span_50 : decode cX9_span 50 = .ok (.ldc 198, 2) := by decide +kernel
theorem dX9_span_52 : decode cX9_span 52 = .ok (.invokespecial 138, 3) := by decide +kernel
theorem dX9_span_55 : decode cX9_span 55 = .ok (.athrow, 1) := by decide +kernel
theorem dX9_span_56 : decode cX9_span 56 = .ok (.aload_n 0, 1) := by decide +kernel
theorem dX9_span_57 : decode cX9_span 57 = .ok (.aload 6, 2) := by decide +kernel
theorem dX9_span_59 : decode cX9_span 59 = .ok (.iload_n 2, 1) := by decide +kernel
theorem dX9_span_60 : decode cX9_span 60 = .ok (.iload_n 3, 1) := by decide +kernel
theorem dX9_span_61 : decode cX9_span 61 = .ok (.invokevirtual 200, 3) := by decide +kernel
theorem dX9_span_64 : decode cX9_span 64 = .ok (.aload_n 0, 1) := by decide +kernel
theorem dX9_span_65 : decode cX9_span 65 = .ok (.getfield 49, 3) := by decide +kernel
theorem dX9_span_68 : decode cX9_span 68 = .ok (.aload 6, 2) := by decide +kernel
theorem dX9_span_70 : decode cX9_span 70 = .ok (.iload_n 2, 1) := by decide +kernel
theorem dX9_span_71 : decode cX9_span 71 = .ok (.iload_n 3, 1) := by decide +kernel
theorem dX9_span_72 : decode cX9_span 72 = .ok (.invokevirtual 204, 3) := by decide +kernel
theorem dX9_span_75 : decode cX9_span 75 = .ok (.aload_n 0, 1) := by decide +kernel
theorem dX9_span_76 : decode cX9_span 76 = .ok (.getfield 49, 3) := by decide +kernel
theorem dX9_span_79 : decode cX9_span 79 = .ok (.getfield 207, 3) := by decide +kernel
theorem dX9_span_82 : decode cX9_span 82 = .ok (.iload 4, 2) := by decide +kernel
theorem dX9_span_84 : decode cX9_span 84 = .ok (.baload, 1) := by decide +kernel
theorem dX9_span_85 : decode cX9_span 85 = .ok (.ifCond .eq 16, 3) := by decide +kernel
theorem dX9_span_88 : decode cX9_span 88 = .ok (.aload_n 0, 1) := by decide +kernel
theorem dX9_span_89 : decode cX9_span 89 = .ok (.getfield 49, 3) := by decide +kernel
theorem dX9_span_92 : decode cX9_span 92 = .ok (.getfield 207, 3) := by decide +kernel
theorem dX9_span_95 : decode cX9_span 95 = .ok (.iload 5, 2) := by decide +kernel
theorem dX9_span_97 : decode cX9_span 97 = .ok (.baload, 1) := by decide +kernel
theorem dX9_span_98 : decode cX9_span 98 = .ok (.ifCond .ne 13, 3) := by decide +kernel
theorem dX9_span_101 : decode cX9_span 101 = .ok (.new 211, 3) := by decide +kernel
theorem dX9_span_104 : decode cX9_span 104 = .ok (.dup, 1) := by decide +kernel
theorem dX9_span_105 : decode cX9_span 105 = .ok (.ldc 213, 2) := by decide +kernel
theorem dX9_span_107 : decode cX9_span 107 = .ok (.invokespecial 215, 3) := by decide +kernel
theorem dX9_span_110 : decode cX9_span 110 = .ok (.athrow, 1) := by decide +kernel
theorem dX9_span_111 : decode cX9_span 111 = .ok (.aload_n 0, 1) := by decide +kernel
theorem dX9_span_112 : decode cX9_span 112 = .ok (.getfield 49, 3) := by decide +kernel
theorem dX9_span_115 : decode cX9_span 115 = .ok (.iload 4, 2) := by decide +kernel
theorem dX9_span_117 : decode cX9_span 117 = .ok (.iload 5, 2) := by decide +kernel
theorem dX9_span_119 : decode cX9_span 119 = .ok (.invokevirtual 216, 3) := by decide +kernel
theorem dX9_span_122 : decode cX9_span 122 = .ok (.ireturn, 1) := by decide +kernel
theorem dX9_round_0 : decode cX9_round 0 = .ok (.aload_n 0, 1) := by decide +kernel
theorem dX9_round_1 : decode cX9_round 1 = .ok (.iload_n 1, 1) := by decide +kernel
theorem dX9_round_2 : decode cX9_round 2 = .ok (.invokevirtual 155, 3) := by decide +kernel
theorem dX9_round_5 : decode cX9_round 5 = .ok (.astore_n 3, 1) := by decide +kernel
theorem dX9_round_6 : decode cX9_round 6 = .ok (.aload_n 3, 1) := by decide +kernel
theorem dX9_round_7 : decode cX9_round 7 = .ok (.ifnull 12, 3) := by decide +kernel
theorem dX9_round_10 : decode cX9_round 10 = .ok (.iload_n 2, 1) := by decide +kernel
theorem dX9_round_11 : decode cX9_round 11 = .ok (.iconst 0, 1) := by decide +kernel
theorem dX9_round_12 : decode cX9_round 12 = .ok (.iconst 2, 1) := by decide +kernel
theorem dX9_round_13 : decode cX9_round 13 = .ok (.invokestatic 86, 3) := by decide +kernel
theorem dX9_round_16 : decode cX9_round 16 = .ok (.ifCond .ne 7, 3) := by decide +kernel
theorem dX9_round_19 : decode cX9_round 19 = .ok (.iconst (-1), 1) := by decide +kernel
theorem dX9_round_20 : decode cX9_round 20 = .ok (.goto 9, 3) := by decide +kernel
theorem dX9_round_23 : decode cX9_round 23 = .ok (.aload_n 0, 1) := by decide +kernel
theorem dX9_round_24 : decode cX9_round 24 = .ok (.aload_n 3, 1) := by decide +kernel
theorem dX9_round_25 : decode cX9_round 25 = .ok (.iload_n 2, 1) := by decide +kernel
theorem dX9_round_26 : decode cX9_round 26 = .ok (.invokevirtual 219, 3) := by decide +kernel
theorem dX9_round_29 : decode cX9_round 29 = .ok (.ireturn, 1) := by decide +kernel
theorem dX9_price_0 : decode cX9_price 0 = .ok (.aload_n 0, 1) := by decide +kernel
theorem dX9_price_1 : decode cX9_price 1 = .ok (.iload_n 1, 1) := by decide +kernel
theorem dX9_price_2 : decode cX9_price 2 = .ok (.invokevirtual 102, 3) := by decide +kernel
theorem dX9_price_5 : decode cX9_price 5 = .ok (.astore 5, 2) := by decide +kernel
theorem dX9_price_7 : decode cX9_price 7 = .ok (.aload 5, 2) := by decide +kernel
theorem dX9_price_9 : decode cX9_price 9 = .ok (.ifnull 28, 3) := by decide +kernel
theorem dX9_price_12 : decode cX9_price 12 = .ok (.aload_n 0, 1) := by decide +kernel
theorem dX9_price_13 : decode cX9_price 13 = .ok (.iload_n 2, 1) := by decide +kernel
theorem dX9_price_14 : decode cX9_price 14 = .ok (.invokevirtual 106, 3) := by decide +kernel
theorem dX9_price_17 : decode cX9_price 17 = .ok (.ifCond .eq 20, 3) := by decide +kernel
theorem dX9_price_20 : decode cX9_price 20 = .ok (.aload_n 0, 1) := by decide +kernel
theorem dX9_price_21 : decode cX9_price 21 = .ok (.iload_n 3, 1) := by decide +kernel
theorem dX9_price_22 : decode cX9_price 22 = .ok (.invokevirtual 112, 3) := by decide +kernel
theorem dX9_price_25 : decode cX9_price 25 = .ok (.ifCond .eq 12, 3) := by decide +kernel
theorem dX9_price_28 : decode cX9_price 28 = .ok (.aload_n 0, 1) := by decide +kernel
theorem dX9_price_29 : decode cX9_price 29 = .ok (.iload 4, 2) := by decide +kernel
theorem dX9_price_31 : decode cX9_price 31 = .ok (.invokevirtual 83, 3) := by decide +kernel
theorem dX9_price_34 : decode cX9_price 34 = .ok (.ifCond .ne 13, 3) := by decide +kernel
theorem dX9_price_37 : decode cX9_price 37 = .ok (.new 134, 3) := by decide +kernel
theorem dX9_price_40 : decode cX9_price 40 = .ok (.dup, 1) := by decide +kernel
theorem dX9_price_41 : decode cX9_price 41 = .ok (.ldc 198, 2) := by decide +kernel
theorem dX9_price_43 : decode cX9_price 43 = .ok (.invokespecial 138, 3) := by decide +kernel
theorem dX9_price_46 : decode cX9_price 46 = .ok (.athrow, 1) := by decide +kernel
theorem dX9_price_47 : decode cX9_price 47 = .ok (.aload_n 0, 1) := by decide +kernel
theorem dX9_price_48 : decode cX9_price 48 = .ok (.aload 5, 2) := by decide +kernel
theorem dX9_price_50 : decode cX9_price 50 = .ok (.iload_n 2, 1) := by decide +kernel
theorem dX9_price_51 : decode cX9_price 51 = .ok (.iload_n 3, 1) := by decide +kernel
theorem dX9_price_52 : decode cX9_price 52 = .ok (.invokevirtual 200, 3) := by decide +kernel
theorem dX9_price_55 : decode cX9_price 55 = .ok (.aload_n 0, 1) := by decide +kernel
theorem dX9_price_56 : decode cX9_price 56 = .ok (.getfield 49, 3) := by decide +kernel
theorem dX9_price_59 : decode cX9_price 59 = .ok (.aload 5, 2) := by decide +kernel
theorem dX9_price_61 : decode cX9_price 61 = .ok (.iload_n 2, 1) := by decide +kernel
theorem dX9_price_62 : decode cX9_price 62 = .ok (.iload_n 3, 1) := by decide +kernel
theorem dX9_price_63 : decode cX9_price 63 = .ok (.invokevirtual 204, 3) := by decide +kernel
theorem dX9_price_66 : decode cX9_price 66 = .ok (.aload_n 0, 1) := by decide +kernel
theorem dX9_price_67 : decode cX9_price 67 = .ok (.getfield 49, 3) := by decide +kernel
theorem dX9_price_70 : decode cX9_price 70 = .ok (.getfield 207, 3) := by decide +kernel
theorem dX9_price_73 : decode cX9_price 73 = .ok (.iload 4, 2) := by decide +kernel
theorem dX9_price_75 : decode cX9_price 75 = .ok (.baload, 1) := by decide +kernel
theorem dX9_price_76 : decode cX9_price 76 = .ok (.ifCond .eq 13, 3) := by decide +kernel
theorem dX9_price_79 : decode cX9_price 79 = .ok (.aload_n 0, 1) := by decide +kernel
theorem dX9_price_80 : decode cX9_price 80 = .ok (.getfield 49, 3) := by decide +kernel
theorem dX9_price_83 : decode cX9_price 83 = .ok (.invokevirtual 222, 3) := by decide +kernel
theorem dX9_price_86 : decode cX9_price 86 = .ok (.ifCond .eq 13, 3) := by decide +kernel
theorem dX9_price_89 : decode cX9_price 89 = .ok (.new 211, 3) := by decide +kernel
theorem dX9_price_92 : decode cX9_price 92 = .ok (.dup, 1) := by decide +kernel
theorem dX9_price_93 : decode cX9_price 93 = .ok (.ldc 226, 2) := by decide +kernel
theorem dX9_price_95 : decode cX9_price 95 = .ok (.invokespecial 215, 3) := by decide +kernel
theorem dX9_price_98 : decode cX9_price 98 = .ok (.athrow, 1) := by decide +kernel
theorem dX9_price_99 : decode cX9_price 99 = .ok (.aload_n 0, 1) := by decide +kernel
theorem dX9_price_100 : decode cX9_price 100 = .ok (.getfield 49, 3) := by decide +kernel
theorem dX9_price_103 : decode cX9_price 103 = .ok (.iload 4, 2) := by decide +kernel
theorem dX9_price_105 : decode cX9_price 105 = .ok (.invokevirtual 228, 3) := by decide +kernel
theorem dX9_price_108 : decode cX9_price 108 = .ok (.ireturn, 1) := by decide +kernel
theorem dX9_honest_0 : decode cX9_honest 0 = .ok (.aload_n 0, 1) := by decide +kernel
theorem dX9_honest_1 : decode cX9_honest 1 = .ok (.iload_n 1, 1) := by decide +kernel
theorem dX9_honest_2 : decode cX9_honest 2 = .ok (.invokevirtual 155, 3) := by decide +kernel
theorem dX9_honest_5 : decode cX9_honest 5 = .ok (.astore_n 2, 1) := by decide +kernel
end
section
theorem dX9_honest_6 : decode cX9_honest 6 = .ok (.aload_n 2, 1) := by decide +kernel
theorem dX9_honest_7 : decode cX9_honest 7 = .ok (.ifnonnull 5, 3) := by decide +kernel
theorem dX9_honest_10 : decode cX9_honest 10 = .ok (.iconst (-1), 1) := by decide +kernel
theorem dX9_honest_11 : decode cX9_honest 11 = .ok (.ireturn, 1) := by decide +kernel
theorem dX9_honest_12 : decode cX9_honest 12 = .ok (.aload_n 0, 1) := by decide +kernel
theorem dX9_honest_13 : decode cX9_honest 13 = .ok (.getfield 72, 3) := by decide +kernel
theorem dX9_honest_16 : decode cX9_honest 16 = .ok (.bipush 8, 2) := by decide +kernel
theorem dX9_honest_18 : decode cX9_honest 18 = .ok (.if_icmp .lt 6, 3) := by decide +kernel
theorem dX9_honest_21 : decode cX9_honest 21 = .ok (.bipush (-2), 2) := by decide +kernel
theorem dX9_honest_23 : decode cX9_honest 23 = .ok (.ireturn, 1) := by decide +kernel
theorem dX9_honest_24 : decode cX9_honest 24 = .ok (.aload_n 0, 1) := by decide +kernel
theorem dX9_honest_25 : decode cX9_honest 25 = .ok (.aload_n 2, 1) := by decide +kernel
theorem dX9_honest_26 : decode cX9_honest 26 = .ok (.iconst 0, 1) := by decide +kernel
theorem dX9_honest_27 : decode cX9_honest 27 = .ok (.invokevirtual 219, 3) := by decide +kernel
theorem dX9_honest_30 : decode cX9_honest 30 = .ok (.bipush (-2), 2) := by decide +kernel
theorem dX9_honest_32 : decode cX9_honest 32 = .ok (.if_icmp .ne 15, 3) := by decide +kernel
theorem dX9_honest_35 : decode cX9_honest 35 = .ok (.aload_n 0, 1) := by decide +kernel
theorem dX9_honest_36 : decode cX9_honest 36 = .ok (.aload_n 0, 1) := by decide +kernel
theorem dX9_honest_37 : decode cX9_honest 37 = .ok (.aload_n 2, 1) := by decide +kernel
theorem dX9_honest_38 : decode cX9_honest 38 = .ok (.invokevirtual 231, 3) := by decide +kernel
theorem dX9_honest_41 : decode cX9_honest 41 = .ok (.invokevirtual 98, 3) := by decide +kernel
theorem dX9_honest_44 : decode cX9_honest 44 = .ok (.goto 5, 3) := by decide +kernel
theorem dX9_honest_47 : decode cX9_honest 47 = .ok (.bipush (-3), 2) := by decide +kernel
theorem dX9_honest_49 : decode cX9_honest 49 = .ok (.ireturn, 1) := by decide +kernel
theorem dX9_same_0 : decode cX9_same 0 = .ok (.aload_n 0, 1) := by decide +kernel
theorem dX9_same_1 : decode cX9_same 1 = .ok (.iload_n 1, 1) := by decide +kernel
theorem dX9_same_2 : decode cX9_same 2 = .ok (.invokevirtual 155, 3) := by decide +kernel
theorem dX9_same_5 : decode cX9_same 5 = .ok (.astore_n 3, 1) := by decide +kernel
theorem dX9_same_6 : decode cX9_same 6 = .ok (.aload_n 0, 1) := by decide +kernel
theorem dX9_same_7 : decode cX9_same 7 = .ok (.iload_n 2, 1) := by decide +kernel
theorem dX9_same_8 : decode cX9_same 8 = .ok (.invokevirtual 155, 3) := by decide +kernel
theorem dX9_same_11 : decode cX9_same 11 = .ok (.astore 4, 2) := by decide +kernel
theorem dX9_same_13 : decode cX9_same 13 = .ok (.aload_n 3, 1) := by decide +kernel
theorem dX9_same_14 : decode cX9_same 14 = .ok (.ifnull 8, 3) := by decide +kernel
theorem dX9_same_17 : decode cX9_same 17 = .ok (.aload 4, 2) := by decide +kernel
theorem dX9_same_19 : decode cX9_same 19 = .ok (.ifnonnull 5, 3) := by decide +kernel
theorem dX9_same_22 : decode cX9_same 22 = .ok (.iconst (-1), 1) := by decide +kernel
theorem dX9_same_23 : decode cX9_same 23 = .ok (.ireturn, 1) := by decide +kernel
theorem dX9_same_24 : decode cX9_same 24 = .ok (.iconst 0, 1) := by decide +kernel
theorem dX9_same_25 : decode cX9_same 25 = .ok (.istore 5, 2) := by decide +kernel
theorem dX9_same_27 : decode cX9_same 27 = .ok (.iload 5, 2) := by decide +kernel
theorem dX9_same_29 : decode cX9_same 29 = .ok (.aload_n 0, 1) := by decide +kernel
theorem dX9_same_30 : decode cX9_same 30 = .ok (.getfield 27, 3) := by decide +kernel
theorem dX9_same_33 : decode cX9_same 33 = .ok (.getfield 162, 3) := by decide +kernel
theorem dX9_same_36 : decode cX9_same 36 = .ok (.if_icmp .ge 23, 3) := by decide +kernel
theorem dX9_same_39 : decode cX9_same 39 = .ok (.aload_n 0, 1) := by decide +kernel
theorem dX9_same_40 : decode cX9_same 40 = .ok (.aload_n 3, 1) := by decide +kernel
theorem dX9_same_41 : decode cX9_same 41 = .ok (.aload 4, 2) := by decide +kernel
theorem dX9_same_43 : decode cX9_same 43 = .ok (.iload 5, 2) := by decide +kernel
theorem dX9_same_45 : decode cX9_same 45 = .ok (.invokevirtual 235, 3) := by decide +kernel
theorem dX9_same_48 : decode cX9_same 48 = .ok (.ifCond .ne 5, 3) := by decide +kernel
theorem dX9_same_51 : decode cX9_same 51 = .ok (.iconst 0, 1) := by decide +kernel
theorem dX9_same_52 : decode cX9_same 52 = .ok (.ireturn, 1) := by decide +kernel
theorem dX9_same_53 : decode cX9_same 53 = .ok (.iinc 5 1, 3) := by decide +kernel
theorem dX9_same_56 : decode cX9_same 56 = .ok (.goto (-29), 3) := by decide +kernel
theorem dX9_same_59 : decode cX9_same 59 = .ok (.iconst 1, 1) := by decide +kernel
theorem dX9_same_60 : decode cX9_same 60 = .ok (.ireturn, 1) := by decide +kernel
theorem dX9_fair_0 : decode cX9_fair 0 = .ok (.aload_n 0, 1) := by decide +kernel
theorem dX9_fair_1 : decode cX9_fair 1 = .ok (.iload_n 1, 1) := by decide +kernel
theorem dX9_fair_2 : decode cX9_fair 2 = .ok (.invokevirtual 155, 3) := by decide +kernel
theorem dX9_fair_5 : decode cX9_fair 5 = .ok (.astore_n 2, 1) := by decide +kernel
theorem dX9_fair_6 : decode cX9_fair 6 = .ok (.aload_n 2, 1) := by decide +kernel
theorem dX9_fair_7 : decode cX9_fair 7 = .ok (.ifnonnull 5, 3) := by decide +kernel
theorem dX9_fair_10 : decode cX9_fair 10 = .ok (.iconst (-1), 1) := by decide +kernel
theorem dX9_fair_11 : decode cX9_fair 11 = .ok (.ireturn, 1) := by decide +kernel
theorem dX9_fair_12 : decode cX9_fair 12 = .ok (.iconst 0, 1) := by decide +kernel
theorem dX9_fair_13 : decode cX9_fair 13 = .ok (.istore_n 3, 1) := by decide +kernel
theorem dX9_fair_14 : decode cX9_fair 14 = .ok (.iload_n 3, 1) := by decide +kernel
theorem dX9_fair_15 : decode cX9_fair 15 = .ok (.aload_n 0, 1) := by decide +kernel
theorem dX9_fair_16 : decode cX9_fair 16 = .ok (.getfield 27, 3) := by decide +kernel
theorem dX9_fair_19 : decode cX9_fair 19 = .ok (.getfield 162, 3) := by decide +kernel
theorem dX9_fair_22 : decode cX9_fair 22 = .ok (.if_icmp .ge 20, 3) := by decide +kernel
theorem dX9_fair_25 : decode cX9_fair 25 = .ok (.aload_n 0, 1) := by decide +kernel
theorem dX9_fair_26 : decode cX9_fair 26 = .ok (.aload_n 2, 1) := by decide +kernel
theorem dX9_fair_27 : decode cX9_fair 27 = .ok (.iload_n 3, 1) := by decide +kernel
theorem dX9_fair_28 : decode cX9_fair 28 = .ok (.invokevirtual 239, 3) := by decide +kernel
theorem dX9_fair_31 : decode cX9_fair 31 = .ok (.ifCond .ne 5, 3) := by decide +kernel
theorem dX9_fair_34 : decode cX9_fair 34 = .ok (.iconst 0, 1) := by decide +kernel
theorem dX9_fair_35 : decode cX9_fair 35 = .ok (.ireturn, 1) := by decide +kernel
theorem dX9_fair_36 : decode cX9_fair 36 = .ok (.iinc 3 1, 3) := by decide +kernel
theorem dX9_fair_39 : decode cX9_fair 39 = .ok (.goto (-25), 3) := by decide +kernel
theorem dX9_fair_42 : decode cX9_fair 42 = .ok (.iconst 1, 1) := by decide +kernel
theorem dX9_fair_43 : decode cX9_fair 43 = .ok (.ireturn, 1) := by decide +kernel
theorem dX9_likes_0 : decode cX9_likes 0 = .ok (.aload_n 0, 1) := by decide +kernel
theorem dX9_likes_1 : decode cX9_likes 1 = .ok (.iload_n 1, 1) := by decide +kernel
theorem dX9_likes_2 : decode cX9_likes 2 = .ok (.invokevirtual 112, 3) := by decide +kernel
theorem dX9_likes_5 : decode cX9_likes 5 = .ok (.ifCond .eq 14, 3) := by decide +kernel
theorem dX9_likes_8 : decode cX9_likes 8 = .ok (.aload_n 0, 1) := by decide +kernel
theorem dX9_likes_9 : decode cX9_likes 9 = .ok (.getfield 58, 3) := by decide +kernel
theorem dX9_likes_12 : decode cX9_likes 12 = .ok (.iload_n 2, 1) := by decide +kernel
theorem dX9_likes_13 : decode cX9_likes 13 = .ok (.invokevirtual 242, 3) := by decide +kernel
theorem dX9_likes_16 : decode cX9_likes 16 = .ok (.ifCond .ne 5, 3) := by decide +kernel
theorem dX9_likes_19 : decode cX9_likes 19 = .ok (.iconst (-1), 1) := by decide +kernel
theorem dX9_likes_20 : decode cX9_likes 20 = .ok (.ireturn, 1) := by decide +kernel
theorem dX9_likes_21 : decode cX9_likes 21 = .ok (.aload_n 0, 1) := by decide +kernel
theorem dX9_likes_22 : decode cX9_likes 22 = .ok (.getfield 58, 3) := by decide +kernel
theorem dX9_likes_25 : decode cX9_likes 25 = .ok (.iload_n 1, 1) := by decide +kernel
theorem dX9_likes_26 : decode cX9_likes 26 = .ok (.iload_n 2, 1) := by decide +kernel
theorem dX9_likes_27 : decode cX9_likes 27 = .ok (.invokevirtual 245, 3) := by decide +kernel
theorem dX9_likes_30 : decode cX9_likes 30 = .ok (.iconst 0, 1) := by decide +kernel
theorem dX9_likes_31 : decode cX9_likes 31 = .ok (.ireturn, 1) := by decide +kernel
theorem dX9_rings_0 : decode cX9_rings 0 = .ok (.aload_n 0, 1) := by decide +kernel
theorem dX9_rings_1 : decode cX9_rings 1 = .ok (.getfield 58, 3) := by decide +kernel
theorem dX9_rings_4 : decode cX9_rings 4 = .ok (.invokevirtual 248, 3) := by decide +kernel
theorem dX9_rings_7 : decode cX9_rings 7 = .ok (.ireturn, 1) := by decide +kernel
theorem dX9_leaves_0 : decode cX9_leaves 0 = .ok (.aload_n 0, 1) := by decide +kernel
theorem dX9_leaves_1 : decode cX9_leaves 1 = .ok (.iload_n 1, 1) := by decide +kernel
theorem dX9_leaves_2 : decode cX9_leaves 2 = .ok (.invokevirtual 112, 3) := by decide +kernel
theorem dX9_leaves_5 : decode cX9_leaves 5 = .ok (.ifCond .ne 5, 3) := by decide +kernel
theorem dX9_leaves_8 : decode cX9_leaves 8 = .ok (.iconst (-1), 1) := by decide +kernel
theorem dX9_leaves_9 : decode cX9_leaves 9 = .ok (.ireturn, 1) := by decide +kernel
theorem dX9_leaves_10 : decode cX9_leaves 10 = .ok (.aload_n 0, 1) := by decide +kernel
theorem dX9_leaves_11 : decode cX9_leaves 11 = .ok (.getfield 58, 3) := by decide +kernel
theorem dX9_leaves_14 : decode cX9_leaves 14 = .ok (.invokevirtual 248, 3) := by decide +kernel
theorem dX9_leaves_17 : decode cX9_leaves 17 = .ok (.pop, 1) := by decide +kernel
theorem dX9_leaves_18 : decode cX9_leaves 18 = .ok (.aload_n 0, 1) := by decide +kernel
theorem dX9_leaves_19 : decode cX9_leaves 19 = .ok (.getfield 58, 3) := by decide +kernel
theorem dX9_leaves_22 : decode cX9_leaves 22 = .ok (.getfield 251, 3) := by decide +kernel
theorem dX9_leaves_25 : decode cX9_leaves 25 = .ok (.iload_n 1, 1) := by decide +kernel
theorem dX9_leaves_26 : decode cX9_leaves 26 = .ok (.iaload, 1) := by decide +kernel
theorem dX9_leaves_27 : decode cX9_leaves 27 = .ok (.ireturn, 1) := by decide +kernel
theorem dX9_turns_0 : decode cX9_turns 0 = .ok (.aload_n 0, 1) := by decide +kernel
theorem dX9_turns_1 : decode cX9_turns 1 = .ok (.getfield 58, 3) := by decide +kernel
theorem dX9_turns_4 : decode cX9_turns 4 = .ok (.iload_n 1, 1) := by decide +kernel
theorem dX9_turns_5 : decode cX9_turns 5 = .ok (.invokevirtual 242, 3) := by decide +kernel
theorem dX9_turns_8 : decode cX9_turns 8 = .ok (.ifCond .eq 14, 3) := by decide +kernel
theorem dX9_turns_11 : decode cX9_turns 11 = .ok (.aload_n 0, 1) := by decide +kernel
theorem dX9_turns_12 : decode cX9_turns 12 = .ok (.getfield 58, 3) := by decide +kernel
theorem dX9_turns_15 : decode cX9_turns 15 = .ok (.iload_n 1, 1) := by decide +kernel
theorem dX9_turns_16 : decode cX9_turns 16 = .ok (.invokevirtual 255, 3) := by decide +kernel
theorem dX9_turns_19 : decode cX9_turns 19 = .ok (.goto 4, 3) := by decide +kernel
theorem dX9_turns_22 : decode cX9_turns 22 = .ok (.iconst (-1), 1) := by decide +kernel
theorem dX9_turns_23 : decode cX9_turns 23 = .ok (.ireturn, 1) := by decide +kernel
theorem dX9_blocks_0 : decode cX9_blocks 0 = .ok (.aload_n 0, 1) := by decide +kernel
theorem dX9_blocks_1 : decode cX9_blocks 1 = .ok (.getfield 58, 3) := by decide +kernel
theorem dX9_blocks_4 : decode cX9_blocks 4 = .ok (.iload_n 1, 1) := by decide +kernel
theorem dX9_blocks_5 : decode cX9_blocks 5 = .ok (.invokevirtual 242, 3) := by decide +kernel
theorem dX9_blocks_8 : decode cX9_blocks 8 = .ok (.ifCond .ne 5, 3) := by decide +kernel
theorem dX9_blocks_11 : decode cX9_blocks 11 = .ok (.iconst (-1), 1) := by decide +kernel
theorem dX9_blocks_12 : decode cX9_blocks 12 = .ok (.ireturn, 1) := by decide +kernel
theorem dX9_blocks_13 : decode cX9_blocks 13 = .ok (.aload_n 0, 1) := by decide +kernel
theorem dX9_blocks_14 : decode cX9_blocks 14 = .ok (.getfield 58, 3) := by decide +kernel
theorem dX9_blocks_17 : decode cX9_blocks 17 = .ok (.iload_n 1, 1) := by decide +kernel
theorem dX9_blocks_18 : decode cX9_blocks 18 = .ok (.invokevirtual 258, 3) := by decide +kernel
theorem dX9_blocks_21 : decode cX9_blocks 21 = .ok (.istore_n 2, 1) := by decide +kernel
theorem dX9_blocks_22 : decode cX9_blocks 22 = .ok (.iload_n 2, 1) := by decide +kernel
theorem dX9_blocks_23 : decode cX9_blocks 23 = .ok (.ifCond .ne 8, 3) := by decide +kernel
theorem dX9_blocks_26 : decode cX9_blocks 26 = .ok (.bipush (-2), 2) := by decide +kernel
theorem dX9_blocks_28 : decode cX9_blocks 28 = .ok (.goto 4, 3) := by decide +kernel
theorem dX9_blocks_31 : decode cX9_blocks 31 = .ok (.iload_n 2, 1) := by decide +kernel
theorem dX9_blocks_32 : decode cX9_blocks 32 = .ok (.ireturn, 1) := by decide +kernel
theorem dX9_core_0 : decode cX9_core 0 = .ok (.iload_n 1, 1) := by decide +kernel
theorem dX9_core_1 : decode cX9_core 1 = .ok (.ifCond .ge 5, 3) := by decide +kernel
theorem dX9_core_4 : decode cX9_core 4 = .ok (.iconst (-1), 1) := by decide +kernel
theorem dX9_core_5 : decode cX9_core 5 = .ok (.ireturn, 1) := by decide +kernel
theorem dX9_core_6 : decode cX9_core 6 = .ok (.iconst 0, 1) := by decide +kernel
theorem dX9_core_7 : decode cX9_core 7 = .ok (.istore_n 2, 1) := by decide +kernel
theorem dX9_core_8 : decode cX9_core 8 = .ok (.aload_n 0, 1) := by decide +kernel
theorem dX9_core_9 : decode cX9_core 9 = .ok (.getfield 58, 3) := by decide +kernel
theorem dX9_core_12 : decode cX9_core 12 = .ok (.getfield 261, 3) := by decide +kernel
theorem dX9_core_15 : decode cX9_core 15 = .ok (.astore_n 3, 1) := by decide +kernel
theorem dX9_core_16 : decode cX9_core 16 = .ok (.aload_n 3, 1) := by decide +kernel
theorem dX9_core_17 : decode cX9_core 17 = .ok (.arraylength, 1) := by decide +kernel
theorem dX9_core_18 : decode cX9_core 18 = .ok (.istore 4, 2) := by decide +kernel
theorem dX9_core_20 : decode cX9_core 20 = .ok (.iconst 0, 1) := by decide +kernel
theorem dX9_core_21 : decode cX9_core 21 = .ok (.istore 5, 2) := by decide +kernel
theorem dX9_core_23 : decode cX9_core 23 = .ok (.iload 5, 2) := by decide +kernel
theorem dX9_core_25 : decode cX9_core 25 = .ok (.iload 4, 2) := by decide +kernel
theorem dX9_core_27 : decode cX9_core 27 = .ok (.if_icmp .ge 38, 3) := by decide +kernel
theorem dX9_core_30 : decode cX9_core 30 = .ok (.aload_n 3, 1) := by decide +kernel
theorem dX9_core_31 : decode cX9_core 31 = .ok (.iload 5, 2) := by decide +kernel
theorem dX9_core_33 : decode cX9_core 33 = .ok (.iaload, 1) := by decide +kernel
theorem dX9_core_34 : decode cX9_core 34 = .ok (.istore 6, 2) := by decide +kernel
theorem dX9_core_36 : decode cX9_core 36 = .ok (.aload_n 0, 1) := by decide +kernel
theorem dX9_core_37 : decode cX9_core 37 = .ok (.getfield 58, 3) := by decide +kernel
theorem dX9_core_40 : decode cX9_core 40 = .ok (.iload 6, 2) := by decide +kernel
theorem dX9_core_42 : decode cX9_core 42 = .ok (.invokevirtual 258, 3) := by decide +kernel
theorem dX9_core_45 : decode cX9_core 45 = .ok (.ifCond .ne 14, 3) := by decide +kernel
theorem dX9_core_48 : decode cX9_core 48 = .ok (.iload_n 2, 1) := by decide +kernel
theorem dX9_core_49 : decode cX9_core 49 = .ok (.iload_n 1, 1) := by decide +kernel
theorem dX9_core_50 : decode cX9_core 50 = .ok (.if_icmp .ne 6, 3) := by decide +kernel
theorem dX9_core_53 : decode cX9_core 53 = .ok (.iload 6, 2) := by decide +kernel
theorem dX9_core_55 : decode cX9_core 55 = .ok (.ireturn, 1) := by decide +kernel
theorem dX9_core_56 : decode cX9_core 56 = .ok (.iinc 2 1, 3) := by decide +kernel
theorem dX9_core_59 : decode cX9_core 59 = .ok (.iinc 5 1, 3) := by decide +kernel
theorem dX9_core_62 : decode cX9_core 62 = .ok (.goto (-39), 3) := by decide +kernel
theorem dX9_core_65 : decode cX9_core 65 = .ok (.bipush (-2), 2) := by decide +kernel
theorem dX9_core_67 : decode cX9_core 67 = .ok (.ireturn, 1) := by decide +kernel
theorem dX9_good_0 : decode cX9_good 0 = .ok (.aload_n 0, 1) := by decide +kernel
theorem dX9_good_1 : decode cX9_good 1 = .ok (.getfield 58, 3) := by decide +kernel
theorem dX9_good_4 : decode cX9_good 4 = .ok (.iload_n 1, 1) := by decide +kernel
theorem dX9_good_5 : decode cX9_good 5 = .ok (.invokevirtual 242, 3) := by decide +kernel
theorem dX9_good_8 : decode cX9_good 8 = .ok (.ifCond .ne 5, 3) := by decide +kernel
theorem dX9_good_11 : decode cX9_good 11 = .ok (.iconst (-1), 1) := by decide +kernel
theorem dX9_good_12 : decode cX9_good 12 = .ok (.ireturn, 1) := by decide +kernel
theorem dX9_good_13 : decode cX9_good 13 = .ok (.aload_n 0, 1) := by decide +kernel
theorem dX9_good_14 : decode cX9_good 14 = .ok (.getfield 58, 3) := by decide +kernel
theorem dX9_good_17 : decode cX9_good 17 = .ok (.iload_n 1, 1) := by decide +kernel
theorem dX9_good_18 : decode cX9_good 18 = .ok (.invokevirtual 264, 3) := by decide +kernel
theorem dX9_good_21 : decode cX9_good 21 = .ok (.ifCond .eq 7, 3) := by decide +kernel
theorem dX9_good_24 : decode cX9_good 24 = .ok (.iconst 0, 1) := by decide +kernel
theorem dX9_good_25 : decode cX9_good 25 = .ok (.goto 4, 3) := by decide +kernel
theorem dX9_good_28 : decode cX9_good 28 = .ok (.iconst 1, 1) := by decide +kernel
theorem dX9_good_29 : decode cX9_good 29 = .ok (.ireturn, 1) := by decide +kernel
theorem dX9_by_0 : decode cX9_by 0 = .ok (.aload_n 0, 1) := by decide +kernel
theorem dX9_by_1 : decode cX9_by 1 = .ok (.getfield 58, 3) := by decide +kernel
theorem dX9_by_4 : decode cX9_by 4 = .ok (.iload_n 1, 1) := by decide +kernel
theorem dX9_by_5 : decode cX9_by 5 = .ok (.invokevirtual 242, 3) := by decide +kernel
theorem dX9_by_8 : decode cX9_by 8 = .ok (.ifCond .ne 5, 3) := by decide +kernel
theorem dX9_by_11 : decode cX9_by 11 = .ok (.iconst (-1), 1) := by decide +kernel
theorem dX9_by_12 : decode cX9_by 12 = .ok (.ireturn, 1) := by decide +kernel
theorem dX9_by_13 : decode cX9_by 13 = .ok (.aload_n 0, 1) := by decide +kernel
theorem dX9_by_14 : decode cX9_by 14 = .ok (.getfield 58, 3) := by decide +kernel
theorem dX9_by_17 : decode cX9_by 17 = .ok (.getfield 261, 3) := by decide +kernel
theorem dX9_by_20 : decode cX9_by 20 = .ok (.astore_n 2, 1) := by decide +kernel
theorem dX9_by_21 : decode cX9_by 21 = .ok (.aload_n 2, 1) := by decide +kernel
theorem dX9_by_22 : decode cX9_by 22 = .ok (.arraylength, 1) := by decide +kernel
theorem dX9_by_23 : decode cX9_by 23 = .ok (.istore_n 3, 1) := by decide +kernel
theorem dX9_by_24 : decode cX9_by 24 = .ok (.iconst 0, 1) := by decide +kernel
theorem dX9_by_25 : decode cX9_by 25 = .ok (.istore 4, 2) := by decide +kernel
theorem dX9_by_27 : decode cX9_by 27 = .ok (.iload 4, 2) := by decide +kernel
theorem dX9_by_29 : decode cX9_by 29 = .ok (.iload_n 3, 1) := by decide +kernel
theorem dX9_by_30 : decode cX9_by 30 = .ok (.if_icmp .ge 31, 3) := by decide +kernel
theorem dX9_by_33 : decode cX9_by 33 = .ok (.aload_n 2, 1) := by decide +kernel
theorem dX9_by_34 : decode cX9_by 34 = .ok (.iload 4, 2) := by decide +kernel
theorem dX9_by_36 : decode cX9_by 36 = .ok (.iaload, 1) := by decide +kernel
theorem dX9_by_37 : decode cX9_by 37 = .ok (.istore 5, 2) := by decide +kernel
theorem dX9_by_39 : decode cX9_by 39 = .ok (.aload_n 0, 1) := by decide +kernel
theorem dX9_by_40 : decode cX9_by 40 = .ok (.getfield 58, 3) := by decide +kernel
theorem dX9_by_43 : decode cX9_by 43 = .ok (.iload 5, 2) := by decide +kernel
theorem dX9_by_45 : decode cX9_by 45 = .ok (.invokevirtual 255, 3) := by decide +kernel
theorem dX9_by_48 : decode cX9_by 48 = .ok (.iload_n 1, 1) := by decide +kernel
theorem dX9_by_49 : decode cX9_by 49 = .ok (.if_icmp .ne 6, 3) := by decide +kernel
theorem dX9_by_52 : decode cX9_by 52 = .ok (.iload 5, 2) := by decide +kernel
theorem dX9_by_54 : decode cX9_by 54 = .ok (.ireturn, 1) := by decide +kernel
theorem dX9_by_55 : decode cX9_by 55 = .ok (.iinc 4 1, 3) := by decide +kernel
theorem dX9_by_58 : decode cX9_by 58 = .ok (.goto (-31), 3) := by decide +kernel
theorem dX9_by_61 : decode cX9_by 61 = .ok (.bipush (-2), 2) := by decide +kernel
theorem dX9_by_63 : decode cX9_by 63 = .ok (.ireturn, 1) := by decide +kernel
theorem dX9_wrong_0 : decode cX9_wrong 0 = .ok (.aload_n 0, 1) := by decide +kernel
theorem dX9_wrong_1 : decode cX9_wrong 1 = .ok (.iload_n 1, 1) := by decide +kernel
theorem dX9_wrong_2 : decode cX9_wrong 2 = .ok (.invokevirtual 112, 3) := by decide +kernel
theorem dX9_wrong_5 : decode cX9_wrong 5 = .ok (.ifCond .eq 14, 3) := by decide +kernel
theorem dX9_wrong_8 : decode cX9_wrong 8 = .ok (.aload_n 0, 1) := by decide +kernel
theorem dX9_wrong_9 : decode cX9_wrong 9 = .ok (.getfield 58, 3) := by decide +kernel
theorem dX9_wrong_12 : decode cX9_wrong 12 = .ok (.iload_n 1, 1) := by decide +kernel
theorem dX9_wrong_13 : decode cX9_wrong 13 = .ok (.invokevirtual 267, 3) := by decide +kernel
theorem dX9_wrong_16 : decode cX9_wrong 16 = .ok (.goto 4, 3) := by decide +kernel
theorem dX9_wrong_19 : decode cX9_wrong 19 = .ok (.iconst (-1), 1) := by decide +kernel
theorem dX9_wrong_20 : decode cX9_wrong 20 = .ok (.ireturn, 1) := by decide +kernel
theorem dX9_count_0 : decode cX9_count 0 = .ok (.iload_n 1, 1) := by decide +kernel
theorem dX9_count_1 : decode cX9_count 1 = .ok (.tableswitch 90 0 6 #[43, 48, 53, 61, 66, 74, 82], 43) := by decide +kernel
theorem dX9_count_44 : decode cX9_count 44 = .ok (.aload_n 0, 1) := by decide +kernel
theorem dX9_count_45 : decode cX9_count 45 = .ok (.getfield 18, 3) := by decide +kernel
theorem dX9_count_48 : decode cX9_count 48 = .ok (.ireturn, 1) := by decide +kernel
theorem dX9_count_49 : decode cX9_count 49 = .ok (.aload_n 0, 1) := by decide +kernel
theorem dX9_count_50 : decode cX9_count 50 = .ok (.getfield 24, 3) := by decide +kernel
theorem dX9_count_53 : decode cX9_count 53 = .ok (.ireturn, 1) := by decide +kernel
theorem dX9_count_54 : decode cX9_count 54 = .ok (.aload_n 0, 1) := by decide +kernel
theorem dX9_count_55 : decode cX9_count 55 = .ok (.getfield 27, 3) := by decide +kernel
theorem dX9_count_58 : decode cX9_count 58 = .ok (.getfield 69, 3) := by decide +kernel
theorem dX9_count_61 : decode cX9_count 61 = .ok (.ireturn, 1) := by decide +kernel
theorem dX9_count_62 : decode cX9_count 62 = .ok (.aload_n 0, 1) := by decide +kernel
theorem dX9_count_63 : decode cX9_count 63 = .ok (.getfield 72, 3) := by decide +kernel
theorem dX9_count_66 : decode cX9_count 66 = .ok (.ireturn, 1) := by decide +kernel
theorem dX9_count_67 : decode cX9_count 67 = .ok (.aload_n 0, 1) := by decide +kernel
theorem dX9_count_68 : decode cX9_count 68 = .ok (.getfield 27, 3) := by decide +kernel
theorem dX9_count_71 : decode cX9_count 71 = .ok (.getfield 162, 3) := by decide +kernel
theorem dX9_count_74 : decode cX9_count 74 = .ok (.ireturn, 1) := by decide +kernel
theorem dX9_count_75 : decode cX9_count 75 = .ok (.aload_n 0, 1) := by decide +kernel
theorem dX9_count_76 : decode cX9_count 76 = .ok (.getfield 58, 3) := by decide +kernel
theorem dX9_count_79 : decode cX9_count 79 = .ok (.invokevirtual 270, 3) := by decide +kernel
theorem dX9_count_82 : decode cX9_count 82 = .ok (.ireturn, 1) := by decide +kernel
theorem dX9_count_83 : decode cX9_count 83 = .ok (.aload_n 0, 1) := by decide +kernel
theorem dX9_count_84 : decode cX9_count 84 = .ok (.getfield 58, 3) := by decide +kernel
theorem dX9_count_87 : decode cX9_count 87 = .ok (.invokevirtual 273, 3) := by decide +kernel
theorem dX9_count_90 : decode cX9_count 90 = .ok (.ireturn, 1) := by decide +kernel
theorem dX9_count_91 : decode cX9_count 91 = .ok (.iconst (-1), 1) := by decide +kernel
theorem dX9_count_92 : decode cX9_count 92 = .ok (.ireturn, 1) := by decide +kernel
theorem dX9_keep_0 : decode cX9_keep 0 = .ok (.aload_n 0, 1) := by decide +kernel
theorem dX9_keep_1 : decode cX9_keep 1 = .ok (.iload_n 1, 1) := by decide +kernel
theorem dX9_keep_2 : decode cX9_keep 2 = .ok (.invokevirtual 276, 3) := by decide +kernel
theorem dX9_keep_5 : decode cX9_keep 5 = .ok (.astore 4, 2) := by decide +kernel
theorem dX9_keep_7 : decode cX9_keep 7 = .ok (.aload 4, 2) := by decide +kernel
theorem dX9_keep_9 : decode cX9_keep 9 = .ok (.ifnonnull 5, 3) := by decide +kernel
theorem dX9_keep_12 : decode cX9_keep 12 = .ok (.iconst (-1), 1) := by decide +kernel
theorem dX9_keep_13 : decode cX9_keep 13 = .ok (.ireturn, 1) := by decide +kernel
theorem dX9_keep_14 : decode cX9_keep 14 = .ok (.iload_n 2, 1) := by decide +kernel
theorem dX9_keep_15 : decode cX9_keep 15 = .ok (.tableswitch 64 0 4 #[33, 40, 64, 48, 56], 33) := by decide +kernel
theorem dX9_keep_48 : decode cX9_keep 48 = .ok (.aload 4, 2) := by decide +kernel
theorem dX9_keep_50 : decode cX9_keep 50 = .ok (.invokevirtual 280, 3) := by decide +kernel
theorem dX9_keep_53 : decode cX9_keep 53 = .ok (.iconst 0, 1) := by decide +kernel
theorem dX9_keep_54 : decode cX9_keep 54 = .ok (.ireturn, 1) := by decide +kernel
theorem dX9_keep_55 : decode cX9_keep 55 = .ok (.aload_n 0, 1) := by decide +kernel
theorem dX9_keep_56 : decode cX9_keep 56 = .ok (.aload 4, 2) := by decide +kernel
theorem dX9_keep_58 : decode cX9_keep 58 = .ok (.iload_n 3, 1) := by decide +kernel
theorem dX9_keep_59 : decode cX9_keep 59 = .ok (.invokevirtual 283, 3) := by decide +kernel
theorem dX9_keep_62 : decode cX9_keep 62 = .ok (.ireturn, 1) := by decide +kernel
theorem dX9_keep_63 : decode cX9_keep 63 = .ok (.aload_n 0, 1) := by decide +kernel
theorem dX9_keep_64 : decode cX9_keep 64 = .ok (.aload 4, 2) := by decide +kernel
theorem dX9_keep_66 : decode cX9_keep 66 = .ok (.iload_n 3, 1) := by decide +kernel
theorem dX9_keep_67 : decode cX9_keep 67 = .ok (.invokevirtual 287, 3) := by decide +kernel
theorem dX9_keep_70 : decode cX9_keep 70 = .ok (.ireturn, 1) := by decide +kernel
theorem dX9_keep_71 : decode cX9_keep 71 = .ok (.aload_n 0, 1) := by decide +kernel
theorem dX9_keep_72 : decode cX9_keep 72 = .ok (.aload 4, 2) := by decide +kernel
theorem dX9_keep_74 : decode cX9_keep 74 = .ok (.iload_n 3, 1) := by decide +kernel
theorem dX9_keep_75 : decode cX9_keep 75 = .ok (.invokevirtual 290, 3) := by decide +kernel
theorem dX9_keep_78 : decode cX9_keep 78 = .ok (.ireturn, 1) := by decide +kernel
theorem dX9_keep_79 : decode cX9_keep 79 = .ok (.iconst (-1), 1) := by decide +kernel
theorem dX9_keep_80 : decode cX9_keep 80 = .ok (.ireturn, 1) := by decide +kernel
theorem dX9_make_0 : decode cX9_make 0 = .ok (.aload_n 0, 1) := by decide +kernel
theorem dX9_make_1 : decode cX9_make 1 = .ok (.iload_n 1, 1) := by decide +kernel
theorem dX9_make_2 : decode cX9_make 2 = .ok (.invokevirtual 276, 3) := by decide +kernel
theorem dX9_make_5 : decode cX9_make 5 = .ok (.astore 4, 2) := by decide +kernel
theorem dX9_make_7 : decode cX9_make 7 = .ok (.aload 4, 2) := by decide +kernel
theorem dX9_make_9 : decode cX9_make 9 = .ok (.ifnull 18, 3) := by decide +kernel
theorem dX9_make_12 : decode cX9_make 12 = .ok (.iload_n 2, 1) := by decide +kernel
theorem dX9_make_13 : decode cX9_make 13 = .ok (.iconst 3, 1) := by decide +kernel
theorem dX9_make_14 : decode cX9_make 14 = .ok (.iconst 4, 1) := by decide +kernel
theorem dX9_make_15 : decode cX9_make 15 = .ok (.invokestatic 86, 3) := by decide +kernel
theorem dX9_make_18 : decode cX9_make 18 = .ok (.ifCond .eq 9, 3) := by decide +kernel
theorem dX9_make_21 : decode cX9_make 21 = .ok (.iload_n 3, 1) := by decide +kernel
theorem dX9_make_22 : decode cX9_make 22 = .ok (.bipush 60, 2) := by decide +kernel
theorem dX9_make_24 : decode cX9_make 24 = .ok (.if_icmp .le 5, 3) := by decide +kernel
theorem dX9_make_27 : decode cX9_make 27 = .ok (.iconst (-1), 1) := by decide +kernel
theorem dX9_make_28 : decode cX9_make 28 = .ok (.ireturn, 1) := by decide +kernel
theorem dX9_make_29 : decode cX9_make 29 = .ok (.iload_n 3, 1) := by decide +kernel
theorem dX9_make_30 : decode cX9_make 30 = .ok (.ifCond .ge 6, 3) := by decide +kernel
theorem dX9_make_33 : decode cX9_make 33 = .ok (.bipush (-14), 2) := by decide +kernel
theorem dX9_make_35 : decode cX9_make 35 = .ok (.ireturn, 1) := by decide +kernel
theorem dX9_make_36 : decode cX9_make 36 = .ok (.aload 4, 2) := by decide +kernel
theorem dX9_make_38 : decode cX9_make 38 = .ok (.iload_n 2, 1) := by decide +kernel
theorem dX9_make_39 : decode cX9_make 39 = .ok (.iload_n 3, 1) := by decide +kernel
theorem dX9_make_40 : decode cX9_make 40 = .ok (.invokevirtual 293, 3) := by decide +kernel
theorem dX9_make_43 : decode cX9_make 43 = .ok (.iconst 0, 1) := by decide +kernel
theorem dX9_make_44 : decode cX9_make 44 = .ok (.ireturn, 1) := by decide +kernel
theorem dX9_element_0 : decode cX9_element 0 = .ok (.aload_n 0, 1) := by decide +kernel
theorem dX9_element_1 : decode cX9_element 1 = .ok (.iload_n 1, 1) := by decide +kernel
theorem dX9_element_2 : decode cX9_element 2 = .ok (.invokevirtual 276, 3) := by decide +kernel
theorem dX9_element_5 : decode cX9_element 5 = .ok (.astore_n 3, 1) := by decide +kernel
theorem dX9_element_6 : decode cX9_element 6 = .ok (.aload_n 3, 1) := by decide +kernel
theorem dX9_element_7 : decode cX9_element 7 = .ok (.ifnonnull 14, 3) := by decide +kernel
theorem dX9_element_10 : decode cX9_element 10 = .ok (.new 134, 3) := by decide +kernel
theorem dX9_element_13 : decode cX9_element 13 = .ok (.dup, 1) := by decide +kernel
theorem dX9_element_14 : decode cX9_element 14 = .ok (.ldc_w 296, 3) := by decide +kernel
theorem dX9_element_17 : decode cX9_element 17 = .ok (.invokespecial 138, 3) := by decide +kernel
theorem dX9_element_20 : decode cX9_element 20 = .ok (.athrow, 1) := by decide +kernel
theorem dX9_element_21 : decode cX9_element 21 = .ok (.aload_n 3, 1) := by decide +kernel
theorem dX9_element_22 : decode cX9_element 22 = .ok (.invokevirtual 298, 3) := by decide +kernel
theorem dX9_element_25 : decode cX9_element 25 = .ok (.ifCond .eq 17, 3) := by decide +kernel
theorem dX9_element_28 : decode cX9_element 28 = .ok (.iload_n 2, 1) := by decide +kernel
theorem dX9_element_29 : decode cX9_element 29 = .ok (.iconst 0, 1) := by decide +kernel
theorem dX9_element_30 : decode cX9_element 30 = .ok (.aload_n 3, 1) := by decide +kernel
theorem dX9_element_31 : decode cX9_element 31 = .ok (.getfield 301, 3) := by decide +kernel
theorem dX9_element_34 : decode cX9_element 34 = .ok (.iconst 1, 1) := by decide +kernel
theorem dX9_element_35 : decode cX9_element 35 = .ok (.isub, 1) := by decide +kernel
theorem dX9_element_36 : decode cX9_element 36 = .ok (.invokestatic 86, 3) := by decide +kernel
theorem dX9_element_39 : decode cX9_element 39 = .ok (.ifCond .ne 14, 3) := by decide +kernel
theorem dX9_element_42 : decode cX9_element 42 = .ok (.new 211, 3) := by decide +kernel
theorem dX9_element_45 : decode cX9_element 45 = .ok (.dup, 1) := by decide +kernel
theorem dX9_element_46 : decode cX9_element 46 = .ok (.ldc_w 304, 3) := by decide +kernel
theorem dX9_element_49 : decode cX9_element 49 = .ok (.invokespecial 215, 3) := by decide +kernel
theorem dX9_element_52 : decode cX9_element 52 = .ok (.athrow, 1) := by decide +kernel
theorem dX9_element_53 : decode cX9_element 53 = .ok (.aload_n 3, 1) := by decide +kernel
theorem dX9_element_54 : decode cX9_element 54 = .ok (.getfield 306, 3) := by decide +kernel
theorem dX9_element_57 : decode cX9_element 57 = .ok (.iload_n 2, 1) := by decide +kernel
theorem dX9_element_58 : decode cX9_element 58 = .ok (.laload, 1) := by decide +kernel
theorem dX9_element_59 : decode cX9_element 59 = .ok (.lreturn, 1) := by decide +kernel
theorem dX9_copy_0 : decode cX9_copy 0 = .ok (.aload_n 0, 1) := by decide +kernel
theorem dX9_copy_1 : decode cX9_copy 1 = .ok (.iload_n 1, 1) := by decide +kernel
theorem dX9_copy_2 : decode cX9_copy 2 = .ok (.invokevirtual 276, 3) := by decide +kernel
theorem dX9_copy_5 : decode cX9_copy 5 = .ok (.astore 6, 2) := by decide +kernel
theorem dX9_copy_7 : decode cX9_copy 7 = .ok (.aload_n 0, 1) := by decide +kernel
theorem dX9_copy_8 : decode cX9_copy 8 = .ok (.iload_n 3, 1) := by decide +kernel
theorem dX9_copy_9 : decode cX9_copy 9 = .ok (.invokevirtual 276, 3) := by decide +kernel
theorem dX9_copy_12 : decode cX9_copy 12 = .ok (.astore 7, 2) := by decide +kernel
theorem dX9_copy_14 : decode cX9_copy 14 = .ok (.aload 6, 2) := by decide +kernel
theorem dX9_copy_16 : decode cX9_copy 16 = .ok (.ifnull 8, 3) := by decide +kernel
theorem dX9_copy_19 : decode cX9_copy 19 = .ok (.aload 7, 2) := by decide +kernel
theorem dX9_copy_21 : decode cX9_copy 21 = .ok (.ifnonnull 5, 3) := by decide +kernel
theorem dX9_copy_24 : decode cX9_copy 24 = .ok (.iconst (-1), 1) := by decide +kernel
theorem dX9_copy_25 : decode cX9_copy 25 = .ok (.ireturn, 1) := by decide +kernel
theorem dX9_copy_26 : decode cX9_copy 26 = .ok (.aload 6, 2) := by decide +kernel
theorem dX9_copy_28 : decode cX9_copy 28 = .ok (.getfield 310, 3) := by decide +kernel
theorem dX9_copy_31 : decode cX9_copy 31 = .ok (.ifCond .eq 11, 3) := by decide +kernel
theorem dX9_copy_34 : decode cX9_copy 34 = .ok (.aload 7, 2) := by decide +kernel
theorem dX9_copy_36 : decode cX9_copy 36 = .ok (.getfield 310, 3) := by decide +kernel
theorem dX9_copy_39 : decode cX9_copy 39 = .ok (.ifCond .ne 6, 3) := by decide +kernel
theorem dX9_copy_42 : decode cX9_copy 42 = .ok (.bipush (-11), 2) := by decide +kernel
theorem dX9_copy_44 : decode cX9_copy 44 = .ok (.ireturn, 1) := by decide +kernel
theorem dX9_copy_45 : decode cX9_copy 45 = .ok (.aload 6, 2) := by decide +kernel
theorem dX9_copy_47 : decode cX9_copy 47 = .ok (.invokevirtual 298, 3) := by decide +kernel
theorem dX9_copy_50 : decode cX9_copy 50 = .ok (.ifCond .eq 16, 3) := by decide +kernel
theorem dX9_copy_53 : decode cX9_copy 53 = .ok (.aload 6, 2) := by decide +kernel
theorem dX9_copy_55 : decode cX9_copy 55 = .ok (.getfield 310, 3) := by decide +kernel
theorem dX9_copy_58 : decode cX9_copy 58 = .ok (.aload 7, 2) := by decide +kernel
theorem dX9_copy_60 : decode cX9_copy 60 = .ok (.getfield 310, 3) := by decide +kernel
theorem dX9_copy_63 : decode cX9_copy 63 = .ok (.if_icmp .eq 6, 3) := by decide +kernel
theorem dX9_copy_66 : decode cX9_copy 66 = .ok (.bipush (-12), 2) := by decide +kernel
theorem dX9_copy_68 : decode cX9_copy 68 = .ok (.ireturn, 1) := by decide +kernel
theorem dX9_copy_69 : decode cX9_copy 69 = .ok (.aload 6, 2) := by decide +kernel
theorem dX9_copy_71 : decode cX9_copy 71 = .ok (.iload_n 2, 1) := by decide +kernel
theorem dX9_copy_72 : decode cX9_copy 72 = .ok (.iload 5, 2) := by decide +kernel
theorem dX9_copy_74 : decode cX9_copy 74 = .ok (.invokevirtual 313, 3) := by decide +kernel
theorem dX9_copy_77 : decode cX9_copy 77 = .ok (.ifCond .eq 15, 3) := by decide +kernel
theorem dX9_copy_80 : decode cX9_copy 80 = .ok (.aload 7, 2) := by decide +kernel
theorem dX9_copy_82 : decode cX9_copy 82 = .ok (.iload 4, 2) := by decide +kernel
theorem dX9_copy_84 : decode cX9_copy 84 = .ok (.iload 5, 2) := by decide +kernel
theorem dX9_copy_86 : decode cX9_copy 86 = .ok (.invokevirtual 313, 3) := by decide +kernel
theorem dX9_copy_89 : decode cX9_copy 89 = .ok (.ifCond .ne 6, 3) := by decide +kernel
theorem dX9_copy_92 : decode cX9_copy 92 = .ok (.bipush (-13), 2) := by decide +kernel
theorem dX9_copy_94 : decode cX9_copy 94 = .ok (.ireturn, 1) := by decide +kernel
theorem dX9_copy_95 : decode cX9_copy 95 = .ok (.aload 6, 2) := by decide +kernel
theorem dX9_copy_97 : decode cX9_copy 97 = .ok (.getfield 306, 3) := by decide +kernel
theorem dX9_copy_100 : decode cX9_copy 100 = .ok (.iload_n 2, 1) := by decide +kernel
theorem dX9_copy_101 : decode cX9_copy 101 = .ok (.aload 7, 2) := by decide +kernel
theorem dX9_copy_103 : decode cX9_copy 103 = .ok (.getfield 306, 3) := by decide +kernel
theorem dX9_copy_106 : decode cX9_copy 106 = .ok (.iload 4, 2) := by decide +kernel
theorem dX9_copy_108 : decode cX9_copy 108 = .ok (.iload 5, 2) := by decide +kernel
theorem dX9_copy_110 : decode cX9_copy 110 = .ok (.invokestatic 317, 3) := by decide +kernel
theorem dX9_copy_113 : decode cX9_copy 113 = .ok (.iload 5, 2) := by decide +kernel
theorem dX9_copy_115 : decode cX9_copy 115 = .ok (.ireturn, 1) := by decide +kernel
theorem dX9_weight_0 : decode cX9_weight 0 = .ok (.aload_n 0, 1) := by decide +kernel
theorem dX9_weight_1 : decode cX9_weight 1 = .ok (.iload_n 1, 1) := by decide +kernel
theorem dX9_weight_2 : decode cX9_weight 2 = .ok (.invokevirtual 276, 3) := by decide +kernel
theorem dX9_weight_5 : decode cX9_weight 5 = .ok (.astore_n 2, 1) := by decide +kernel
theorem dX9_weight_6 : decode cX9_weight 6 = .ok (.aload_n 2, 1) := by decide +kernel
theorem dX9_weight_7 : decode cX9_weight 7 = .ok (.invokestatic 323, 3) := by decide +kernel
theorem dX9_weight_10 : decode cX9_weight 10 = .ok (.istore_n 3, 1) := by decide +kernel
theorem dX9_weight_11 : decode cX9_weight 11 = .ok (.aload_n 2, 1) := by decide +kernel
theorem dX9_weight_12 : decode cX9_weight 12 = .ok (.ifnull 7, 3) := by decide +kernel
theorem dX9_weight_15 : decode cX9_weight 15 = .ok (.iload_n 3, 1) := by decide +kernel
theorem dX9_weight_16 : decode cX9_weight 16 = .ok (.ifCond .eq 7, 3) := by decide +kernel
theorem dX9_weight_19 : decode cX9_weight 19 = .ok (.iload_n 3, 1) := by decide +kernel
theorem dX9_weight_20 : decode cX9_weight 20 = .ok (.goto 7, 3) := by decide +kernel
theorem dX9_weight_23 : decode cX9_weight 23 = .ok (.aload_n 2, 1) := by decide +kernel
theorem dX9_weight_24 : decode cX9_weight 24 = .ok (.getfield 327, 3) := by decide +kernel
theorem dX9_weight_27 : decode cX9_weight 27 = .ok (.ireturn, 1) := by decide +kernel
theorem dX9_toss_0 : decode cX9_toss 0 = .ok (.aload_n 0, 1) := by decide +kernel
theorem dX9_toss_1 : decode cX9_toss 1 = .ok (.iload_n 1, 1) := by decide +kernel
theorem dX9_toss_2 : decode cX9_toss 2 = .ok (.invokevirtual 276, 3) := by decide +kernel
theorem dX9_toss_5 : decode cX9_toss 5 = .ok (.astore_n 2, 1) := by decide +kernel
theorem dX9_toss_6 : decode cX9_toss 6 = .ok (.aload_n 2, 1) := by decide +kernel
theorem dX9_toss_7 : decode cX9_toss 7 = .ok (.invokestatic 323, 3) := by decide +kernel
theorem dX9_toss_10 : decode cX9_toss 10 = .ok (.istore_n 3, 1) := by decide +kernel
theorem dX9_toss_11 : decode cX9_toss 11 = .ok (.aload_n 2, 1) := by decide +kernel
theorem dX9_toss_12 : decode cX9_toss 12 = .ok (.ifnull 7, 3) := by decide +kernel
theorem dX9_toss_15 : decode cX9_toss 15 = .ok (.iload_n 3, 1) := by decide +kernel
theorem dX9_toss_16 : decode cX9_toss 16 = .ok (.ifCond .eq 7, 3) := by decide +kernel
theorem dX9_toss_19 : decode cX9_toss 19 = .ok (.iload_n 3, 1) := by decide +kernel
theorem dX9_toss_20 : decode cX9_toss 20 = .ok (.goto 10, 3) := by decide +kernel
theorem dX9_toss_23 : decode cX9_toss 23 = .ok (.aload_n 2, 1) := by decide +kernel
theorem dX9_toss_24 : decode cX9_toss 24 = .ok (.getfield 330, 3) := by decide +kernel
theorem dX9_toss_27 : decode cX9_toss 27 = .ok (.invokestatic 334, 3) := by decide +kernel
theorem dX9_toss_30 : decode cX9_toss 30 = .ok (.ireturn, 1) := by decide +kernel
theorem dX9_isWithin_0 : decode cX9_isWithin 0 = .ok (.iload_n 0, 1) := by decide +kernel
theorem dX9_isWithin_1 : decode cX9_isWithin 1 = .ok (.iload_n 1, 1) := by decide +kernel
theorem dX9_isWithin_2 : decode cX9_isWithin 2 = .ok (.if_icmp .lt 12, 3) := by decide +kernel
theorem dX9_isWithin_5 : decode cX9_isWithin 5 = .ok (.iload_n 0, 1) := by decide +kernel
theorem dX9_isWithin_6 : decode cX9_isWithin 6 = .ok (.iload_n 2, 1) := by decide +kernel
theorem dX9_isWithin_7 : decode cX9_isWithin 7 = .ok (.if_icmp .gt 7, 3) := by decide +kernel
theorem dX9_isWithin_10 : decode cX9_isWithin 10 = .ok (.iconst 1, 1) := by decide +kernel
theorem dX9_isWithin_11 : decode cX9_isWithin 11 = .ok (.goto 4, 3) := by decide +kernel
theorem dX9_isWithin_14 : decode cX9_isWithin 14 = .ok (.iconst 0, 1) := by decide +kernel
theorem dX9_isWithin_15 : decode cX9_isWithin 15 = .ok (.ireturn, 1) := by decide +kernel
theorem dX9_isPerson_0 : decode cX9_isPerson 0 = .ok (.iload_n 1, 1) := by decide +kernel
theorem dX9_isPerson_1 : decode cX9_isPerson 1 = .ok (.ifCond .lt 15, 3) := by decide +kernel
theorem dX9_isPerson_4 : decode cX9_isPerson 4 = .ok (.iload_n 1, 1) := by decide +kernel
theorem dX9_isPerson_5 : decode cX9_isPerson 5 = .ok (.aload_n 0, 1) := by decide +kernel
theorem dX9_isPerson_6 : decode cX9_isPerson 6 = .ok (.getfield 18, 3) := by decide +kernel
theorem dX9_isPerson_9 : decode cX9_isPerson 9 = .ok (.if_icmp .ge 7, 3) := by decide +kernel
theorem dX9_isPerson_12 : decode cX9_isPerson 12 = .ok (.iconst 1, 1) := by decide +kernel
theorem dX9_isPerson_13 : decode cX9_isPerson 13 = .ok (.goto 4, 3) := by decide +kernel
theorem dX9_isPerson_16 : decode cX9_isPerson 16 = .ok (.iconst 0, 1) := by decide +kernel
theorem dX9_isPerson_17 : decode cX9_isPerson 17 = .ok (.ireturn, 1) := by decide +kernel
theorem dX9_isEnd_0 : decode cX9_isEnd 0 = .ok (.iload_n 1, 1) := by decide +kernel
theorem dX9_isEnd_1 : decode cX9_isEnd 1 = .ok (.ifCond .lt 15, 3) := by decide +kernel
theorem dX9_isEnd_4 : decode cX9_isEnd 4 = .ok (.iload_n 1, 1) := by decide +kernel
theorem dX9_isEnd_5 : decode cX9_isEnd 5 = .ok (.aload_n 0, 1) := by decide +kernel
theorem dX9_isEnd_6 : decode cX9_isEnd 6 = .ok (.getfield 24, 3) := by decide +kernel
theorem dX9_isEnd_9 : decode cX9_isEnd 9 = .ok (.if_icmp .ge 7, 3) := by decide +kernel
theorem dX9_isEnd_12 : decode cX9_isEnd 12 = .ok (.iconst 1, 1) := by decide +kernel
theorem dX9_isEnd_13 : decode cX9_isEnd 13 = .ok (.goto 4, 3) := by decide +kernel
theorem dX9_isEnd_16 : decode cX9_isEnd 16 = .ok (.iconst 0, 1) := by decide +kernel
theorem dX9_isEnd_17 : decode cX9_isEnd 17 = .ok (.ireturn, 1) := by decide +kernel
theorem dX9_isWish_0 : decode cX9_isWish 0 = .ok (.iload_n 1, 1) := by decide +kernel
theorem dX9_isWish_1 : decode cX9_isWish 1 = .ok (.ifCond .lt 18, 3) := by decide +kernel
theorem dX9_isWish_4 : decode cX9_isWish 4 = .ok (.iload_n 1, 1) := by decide +kernel
theorem dX9_isWish_5 : decode cX9_isWish 5 = .ok (.aload_n 0, 1) := by decide +kernel
theorem dX9_isWish_6 : decode cX9_isWish 6 = .ok (.getfield 27, 3) := by decide +kernel
theorem dX9_isWish_9 : decode cX9_isWish 9 = .ok (.getfield 69, 3) := by decide +kernel
theorem dX9_isWish_12 : decode cX9_isWish 12 = .ok (.if_icmp .ge 7, 3) := by decide +kernel
theorem dX9_isWish_15 : decode cX9_isWish 15 = .ok (.iconst 1, 1) := by decide +kernel
theorem dX9_isWish_16 : decode cX9_isWish 16 = .ok (.goto 4, 3) := by decide +kernel
theorem dX9_isWish_19 : decode cX9_isWish 19 = .ok (.iconst 0, 1) := by decide +kernel
theorem dX9_isWish_20 : decode cX9_isWish 20 = .ok (.ireturn, 1) := by decide +kernel
theorem dX9_isRow_0 : decode cX9_isRow 0 = .ok (.iload_n 1, 1) := by decide +kernel
theorem dX9_isRow_1 : decode cX9_isRow 1 = .ok (.ifCond .lt 18, 3) := by decide +kernel
theorem dX9_isRow_4 : decode cX9_isRow 4 = .ok (.iload_n 1, 1) := by decide +kernel
theorem dX9_isRow_5 : decode cX9_isRow 5 = .ok (.aload_n 0, 1) := by decide +kernel
theorem dX9_isRow_6 : decode cX9_isRow 6 = .ok (.getfield 27, 3) := by decide +kernel
theorem dX9_isRow_9 : decode cX9_isRow 9 = .ok (.getfield 162, 3) := by decide +kernel
theorem dX9_isRow_12 : decode cX9_isRow 12 = .ok (.if_icmp .ge 7, 3) := by decide +kernel
theorem dX9_isRow_15 : decode cX9_isRow 15 = .ok (.iconst 1, 1) := by decide +kernel
theorem dX9_isRow_16 : decode cX9_isRow 16 = .ok (.goto 4, 3) := by decide +kernel
theorem dX9_isRow_19 : decode cX9_isRow 19 = .ok (.iconst 0, 1) := by decide +kernel
theorem dX9_isRow_20 : decode cX9_isRow 20 = .ok (.ireturn, 1) := by decide +kernel
theorem dX9_ruleAt_0 : decode cX9_ruleAt 0 = .ok (.iload_n 1, 1) := by decide +kernel
theorem dX9_ruleAt_1 : decode cX9_ruleAt 1 = .ok (.ifCond .lt 20, 3) := by decide +kernel
theorem dX9_ruleAt_4 : decode cX9_ruleAt 4 = .ok (.iload_n 1, 1) := by decide +kernel
theorem dX9_ruleAt_5 : decode cX9_ruleAt 5 = .ok (.aload_n 0, 1) := by decide +kernel
theorem dX9_ruleAt_6 : decode cX9_ruleAt 6 = .ok (.getfield 72, 3) := by decide +kernel
theorem dX9_ruleAt_9 : decode cX9_ruleAt 9 = .ok (.if_icmp .ge 12, 3) := by decide +kernel
theorem dX9_ruleAt_12 : decode cX9_ruleAt 12 = .ok (.aload_n 0, 1) := by decide +kernel
theorem dX9_ruleAt_13 : decode cX9_ruleAt 13 = .ok (.getfield 33, 3) := by decide +kernel
theorem dX9_ruleAt_16 : decode cX9_ruleAt 16 = .ok (.iload_n 1, 1) := by decide +kernel
theorem dX9_ruleAt_17 : decode cX9_ruleAt 17 = .ok (.aaload, 1) := by decide +kernel
theorem dX9_ruleAt_18 : decode cX9_ruleAt 18 = .ok (.goto 4, 3) := by decide +kernel
theorem dX9_ruleAt_21 : decode cX9_ruleAt 21 = .ok (.aconst_null, 1) := by decide +kernel
theorem dX9_ruleAt_22 : decode cX9_ruleAt 22 = .ok (.areturn, 1) := by decide +kernel
theorem dX9_settledRule_0 : decode cX9_settledRule 0 = .ok (.aload_n 0, 1) := by decide +kernel
theorem dX9_settledRule_1 : decode cX9_settledRule 1 = .ok (.iload_n 1, 1) := by decide +kernel
theorem dX9_settledRule_2 : decode cX9_settledRule 2 = .ok (.invokevirtual 102, 3) := by decide +kernel
theorem dX9_settledRule_5 : decode cX9_settledRule 5 = .ok (.astore_n 2, 1) := by decide +kernel
theorem dX9_settledRule_6 : decode cX9_settledRule 6 = .ok (.aload_n 2, 1) := by decide +kernel
theorem dX9_settledRule_7 : decode cX9_settledRule 7 = .ok (.ifnull 27, 3) := by decide +kernel
theorem dX9_settledRule_10 : decode cX9_settledRule 10 = .ok (.iconst 0, 1) := by decide +kernel
theorem dX9_settledRule_11 : decode cX9_settledRule 11 = .ok (.istore_n 3, 1) := by decide +kernel
theorem dX9_settledRule_12 : decode cX9_settledRule 12 = .ok (.iload_n 3, 1) := by decide +kernel
theorem dX9_settledRule_13 : decode cX9_settledRule 13 = .ok (.aload_n 0, 1) := by decide +kernel
theorem dX9_settledRule_14 : decode cX9_settledRule 14 = .ok (.getfield 27, 3) := by decide +kernel
theorem dX9_settledRule_17 : decode cX9_settledRule 17 = .ok (.getfield 162, 3) := by decide +kernel
theorem dX9_settledRule_20 : decode cX9_settledRule 20 = .ok (.if_icmp .ge 14, 3) := by decide +kernel
theorem dX9_settledRule_23 : decode cX9_settledRule 23 = .ok (.aload_n 2, 1) := by decide +kernel
theorem dX9_settledRule_24 : decode cX9_settledRule 24 = .ok (.iload_n 3, 1) := by decide +kernel
theorem dX9_settledRule_25 : decode cX9_settledRule 25 = .ok (.invokevirtual 127, 3) := by decide +kernel
theorem dX9_settledRule_28 : decode cX9_settledRule 28 = .ok (.iinc 3 1, 3) := by decide +kernel
theorem dX9_settledRule_31 : decode cX9_settledRule 31 = .ok (.goto (-19), 3) := by decide +kernel
theorem dX9_settledRule_34 : decode cX9_settledRule 34 = .ok (.aload_n 2, 1) := by decide +kernel
theorem dX9_settledRule_35 : decode cX9_settledRule 35 = .ok (.areturn, 1) := by decide +kernel
theorem dX9_settleFor_0 : decode cX9_settleFor 0 = .ok (.iconst 0, 1) := by decide +kernel
theorem dX9_settleFor_1 : decode cX9_settleFor 1 = .ok (.istore 4, 2) := by decide +kernel
theorem dX9_settleFor_3 : decode cX9_settleFor 3 = .ok (.iload 4, 2) := by decide +kernel
theorem dX9_settleFor_5 : decode cX9_settleFor 5 = .ok (.aload_n 0, 1) := by decide +kernel
theorem dX9_settleFor_6 : decode cX9_settleFor 6 = .ok (.getfield 27, 3) := by decide +kernel
theorem dX9_settleFor_9 : decode cX9_settleFor 9 = .ok (.getfield 69, 3) := by decide +kernel
theorem dX9_settleFor_12 : decode cX9_settleFor 12 = .ok (.if_icmp .ge 24, 3) := by decide +kernel
theorem dX9_settleFor_15 : decode cX9_settleFor 15 = .ok (.aload_n 1, 1) := by decide +kernel
theorem dX9_settleFor_16 : decode cX9_settleFor 16 = .ok (.aload_n 0, 1) := by decide +kernel
theorem dX9_settleFor_17 : decode cX9_settleFor 17 = .ok (.getfield 27, 3) := by decide +kernel
theorem dX9_settleFor_20 : decode cX9_settleFor 20 = .ok (.iload_n 2, 1) := by decide +kernel
theorem dX9_settleFor_21 : decode cX9_settleFor 21 = .ok (.iload_n 3, 1) := by decide +kernel
theorem dX9_settleFor_22 : decode cX9_settleFor 22 = .ok (.iload 4, 2) := by decide +kernel
theorem dX9_settleFor_24 : decode cX9_settleFor 24 = .ok (.invokevirtual 144, 3) := by decide +kernel
theorem dX9_settleFor_27 : decode cX9_settleFor 27 = .ok (.invokevirtual 127, 3) := by decide +kernel
theorem dX9_settleFor_30 : decode cX9_settleFor 30 = .ok (.iinc 4 1, 3) := by decide +kernel
theorem dX9_settleFor_33 : decode cX9_settleFor 33 = .ok (.goto (-30), 3) := by decide +kernel
theorem dX9_settleFor_36 : decode cX9_settleFor 36 = .ok (.return_, 1) := by decide +kernel
theorem dX9_shelfAt_0 : decode cX9_shelfAt 0 = .ok (.iload_n 1, 1) := by decide +kernel
theorem dX9_shelfAt_1 : decode cX9_shelfAt 1 = .ok (.ifCond .lt 18, 3) := by decide +kernel
theorem dX9_shelfAt_4 : decode cX9_shelfAt 4 = .ok (.iload_n 1, 1) := by decide +kernel
theorem dX9_shelfAt_5 : decode cX9_shelfAt 5 = .ok (.bipush 8, 2) := by decide +kernel
theorem dX9_shelfAt_7 : decode cX9_shelfAt 7 = .ok (.if_icmp .ge 12, 3) := by decide +kernel
theorem dX9_shelfAt_10 : decode cX9_shelfAt 10 = .ok (.aload_n 0, 1) := by decide +kernel
theorem dX9_shelfAt_11 : decode cX9_shelfAt 11 = .ok (.getfield 64, 3) := by decide +kernel
theorem dX9_shelfAt_14 : decode cX9_shelfAt 14 = .ok (.iload_n 1, 1) := by decide +kernel
theorem dX9_shelfAt_15 : decode cX9_shelfAt 15 = .ok (.aaload, 1) := by decide +kernel
theorem dX9_shelfAt_16 : decode cX9_shelfAt 16 = .ok (.goto 4, 3) := by decide +kernel
theorem dX9_shelfAt_19 : decode cX9_shelfAt 19 = .ok (.aconst_null, 1) := by decide +kernel
theorem dX9_shelfAt_20 : decode cX9_shelfAt 20 = .ok (.areturn, 1) := by decide +kernel
theorem dX9_newRule_0 : decode cX9_newRule 0 = .ok (.iload_n 0, 1) := by decide +kernel
theorem dX9_newRule_1 : decode cX9_newRule 1 = .ok (.tableswitch 57 1 3 #[27, 37, 47], 27) := by decide +kernel
theorem dX9_newRule_28 : decode cX9_newRule 28 = .ok (.new 337, 3) := by decide +kernel
theorem dX9_newRule_31 : decode cX9_newRule 31 = .ok (.dup, 1) := by decide +kernel
theorem dX9_newRule_32 : decode cX9_newRule 32 = .ok (.iload_n 1, 1) := by decide +kernel
theorem dX9_newRule_33 : decode cX9_newRule 33 = .ok (.aload_n 2, 1) := by decide +kernel
theorem dX9_newRule_34 : decode cX9_newRule 34 = .ok (.invokespecial 339, 3) := by decide +kernel
theorem dX9_newRule_37 : decode cX9_newRule 37 = .ok (.areturn, 1) := by decide +kernel
theorem dX9_newRule_38 : decode cX9_newRule 38 = .ok (.new 342, 3) := by decide +kernel
theorem dX9_newRule_41 : decode cX9_newRule 41 = .ok (.dup, 1) := by decide +kernel
theorem dX9_newRule_42 : decode cX9_newRule 42 = .ok (.iload_n 1, 1) := by decide +kernel
theorem dX9_newRule_43 : decode cX9_newRule 43 = .ok (.aload_n 2, 1) := by decide +kernel
theorem dX9_newRule_44 : decode cX9_newRule 44 = .ok (.invokespecial 344, 3) := by decide +kernel
theorem dX9_newRule_47 : decode cX9_newRule 47 = .ok (.areturn, 1) := by decide +kernel
theorem dX9_newRule_48 : decode cX9_newRule 48 = .ok (.new 345, 3) := by decide +kernel
theorem dX9_newRule_51 : decode cX9_newRule 51 = .ok (.dup, 1) := by decide +kernel
theorem dX9_newRule_52 : decode cX9_newRule 52 = .ok (.iload_n 1, 1) := by decide +kernel
theorem dX9_newRule_53 : decode cX9_newRule 53 = .ok (.aload_n 2, 1) := by decide +kernel
theorem dX9_newRule_54 : decode cX9_newRule 54 = .ok (.invokespecial 347, 3) := by decide +kernel
theorem dX9_newRule_57 : decode cX9_newRule 57 = .ok (.areturn, 1) := by decide +kernel
theorem dX9_newRule_58 : decode cX9_newRule 58 = .ok (.new 31, 3) := by decide +kernel
theorem dX9_newRule_61 : decode cX9_newRule 61 = .ok (.dup, 1) := by decide +kernel
theorem dX9_newRule_62 : decode cX9_newRule 62 = .ok (.iload_n 1, 1) := by decide +kernel
theorem dX9_newRule_63 : decode cX9_newRule 63 = .ok (.aload_n 2, 1) := by decide +kernel
theorem dX9_newRule_64 : decode cX9_newRule 64 = .ok (.invokespecial 348, 3) := by decide +kernel
theorem dX9_newRule_67 : decode cX9_newRule 67 = .ok (.areturn, 1) := by decide +kernel
theorem dX9_add_0 : decode cX9_add 0 = .ok (.aload_n 0, 1) := by decide +kernel
theorem dX9_add_1 : decode cX9_add 1 = .ok (.getfield 33, 3) := by decide +kernel
theorem dX9_add_4 : decode cX9_add 4 = .ok (.aload_n 0, 1) := by decide +kernel
theorem dX9_add_5 : decode cX9_add 5 = .ok (.getfield 72, 3) := by decide +kernel
theorem dX9_add_8 : decode cX9_add 8 = .ok (.aload_n 1, 1) := by decide +kernel
theorem dX9_add_9 : decode cX9_add 9 = .ok (.aastore, 1) := by decide +kernel
theorem dX9_add_10 : decode cX9_add 10 = .ok (.aload_n 0, 1) := by decide +kernel
theorem dX9_add_11 : decode cX9_add 11 = .ok (.dup, 1) := by decide +kernel
theorem dX9_add_12 : decode cX9_add 12 = .ok (.getfield 72, 3) := by decide +kernel
theorem dX9_add_15 : decode cX9_add 15 = .ok (.iconst 1, 1) := by decide +kernel
theorem dX9_add_16 : decode cX9_add 16 = .ok (.iadd, 1) := by decide +kernel
theorem dX9_add_17 : decode cX9_add 17 = .ok (.putfield 72, 3) := by decide +kernel
theorem dX9_add_20 : decode cX9_add 20 = .ok (.aload_n 0, 1) := by decide +kernel
theorem dX9_add_21 : decode cX9_add 21 = .ok (.getfield 72, 3) := by decide +kernel
theorem dX9_add_24 : decode cX9_add 24 = .ok (.iconst 1, 1) := by decide +kernel
theorem dX9_add_25 : decode cX9_add 25 = .ok (.isub, 1) := by decide +kernel
theorem dX9_add_26 : decode cX9_add 26 = .ok (.ireturn, 1) := by decide +kernel
theorem dX9_pricedRule_0 : decode cX9_pricedRule 0 = .ok (.new 337, 3) := by decide +kernel
theorem dX9_pricedRule_3 : decode cX9_pricedRule 3 = .ok (.dup, 1) := by decide +kernel
theorem dX9_pricedRule_4 : decode cX9_pricedRule 4 = .ok (.aload_n 0, 1) := by decide +kernel
theorem dX9_pricedRule_5 : decode cX9_pricedRule 5 = .ok (.getfield 72, 3) := by decide +kernel
theorem dX9_pricedRule_8 : decode cX9_pricedRule 8 = .ok (.aload_n 0, 1) := by decide +kernel
theorem dX9_pricedRule_9 : decode cX9_pricedRule 9 = .ok (.getfield 27, 3) := by decide +kernel
theorem dX9_pricedRule_12 : decode cX9_pricedRule 12 = .ok (.invokespecial 339, 3) := by decide +kernel
theorem dX9_pricedRule_15 : decode cX9_pricedRule 15 = .ok (.astore_n 2, 1) := by decide +kernel
theorem dX9_pricedRule_16 : decode cX9_pricedRule 16 = .ok (.iconst 0, 1) := by decide +kernel
theorem dX9_pricedRule_17 : decode cX9_pricedRule 17 = .ok (.istore_n 3, 1) := by decide +kernel
theorem dX9_pricedRule_18 : decode cX9_pricedRule 18 = .ok (.iload_n 3, 1) := by decide +kernel
theorem dX9_pricedRule_19 : decode cX9_pricedRule 19 = .ok (.aload_n 0, 1) := by decide +kernel
theorem dX9_pricedRule_20 : decode cX9_pricedRule 20 = .ok (.getfield 27, 3) := by decide +kernel
theorem dX9_pricedRule_23 : decode cX9_pricedRule 23 = .ok (.getfield 162, 3) := by decide +kernel
theorem dX9_pricedRule_26 : decode cX9_pricedRule 26 = .ok (.if_icmp .ge 20, 3) := by decide +kernel
theorem dX9_pricedRule_29 : decode cX9_pricedRule 29 = .ok (.aload_n 2, 1) := by decide +kernel
theorem dX9_pricedRule_30 : decode cX9_pricedRule 30 = .ok (.iload_n 3, 1) := by decide +kernel
theorem dX9_pricedRule_31 : decode cX9_pricedRule 31 = .ok (.aload_n 1, 1) := by decide +kernel
theorem dX9_pricedRule_32 : decode cX9_pricedRule 32 = .ok (.iload_n 3, 1) := by decide +kernel
theorem dX9_pricedRule_33 : decode cX9_pricedRule 33 = .ok (.invokevirtual 130, 3) := by decide +kernel
theorem dX9_pricedRule_36 : decode cX9_pricedRule 36 = .ok (.invokevirtual 349, 3) := by decide +kernel
theorem dX9_pricedRule_39 : decode cX9_pricedRule 39 = .ok (.pop, 1) := by decide +kernel
theorem dX9_pricedRule_40 : decode cX9_pricedRule 40 = .ok (.iinc 3 1, 3) := by decide +kernel
theorem dX9_pricedRule_43 : decode cX9_pricedRule 43 = .ok (.goto (-25), 3) := by decide +kernel
theorem dX9_pricedRule_46 : decode cX9_pricedRule 46 = .ok (.iconst 0, 1) := by decide +kernel
theorem dX9_pricedRule_47 : decode cX9_pricedRule 47 = .ok (.istore_n 3, 1) := by decide +kernel
theorem dX9_pricedRule_48 : decode cX9_pricedRule 48 = .ok (.iload_n 3, 1) := by decide +kernel
theorem dX9_pricedRule_49 : decode cX9_pricedRule 49 = .ok (.aload_n 0, 1) := by decide +kernel
theorem dX9_pricedRule_50 : decode cX9_pricedRule 50 = .ok (.getfield 18, 3) := by decide +kernel
theorem dX9_pricedRule_53 : decode cX9_pricedRule 53 = .ok (.if_icmp .ge 51, 3) := by decide +kernel
theorem dX9_pricedRule_56 : decode cX9_pricedRule 56 = .ok (.iconst 0, 1) := by decide +kernel
theorem dX9_pricedRule_57 : decode cX9_pricedRule 57 = .ok (.istore 4, 2) := by decide +kernel
theorem dX9_pricedRule_59 : decode cX9_pricedRule 59 = .ok (.iload 4, 2) := by decide +kernel
theorem dX9_pricedRule_61 : decode cX9_pricedRule 61 = .ok (.aload_n 0, 1) := by decide +kernel
theorem dX9_pricedRule_62 : decode cX9_pricedRule 62 = .ok (.getfield 27, 3) := by decide +kernel
theorem dX9_pricedRule_65 : decode cX9_pricedRule 65 = .ok (.getfield 162, 3) := by decide +kernel
theorem dX9_pricedRule_68 : decode cX9_pricedRule 68 = .ok (.if_icmp .ge 30, 3) := by decide +kernel
theorem dX9_pricedRule_71 : decode cX9_pricedRule 71 = .ok (.aload_n 0, 1) := by decide +kernel
theorem dX9_pricedRule_72 : decode cX9_pricedRule 72 = .ok (.getfield 27, 3) := by decide +kernel
theorem dX9_pricedRule_75 : decode cX9_pricedRule 75 = .ok (.iload 4, 2) := by decide +kernel
theorem dX9_pricedRule_77 : decode cX9_pricedRule 77 = .ok (.iload_n 3, 1) := by decide +kernel
theorem dX9_pricedRule_78 : decode cX9_pricedRule 78 = .ok (.invokevirtual 149, 3) := by decide +kernel
theorem dX9_pricedRule_81 : decode cX9_pricedRule 81 = .ok (.ifCond .ne 11, 3) := by decide +kernel
theorem dX9_pricedRule_84 : decode cX9_pricedRule 84 = .ok (.aload_n 0, 1) := by decide +kernel
theorem dX9_pricedRule_85 : decode cX9_pricedRule 85 = .ok (.aload_n 2, 1) := by decide +kernel
theorem dX9_pricedRule_86 : decode cX9_pricedRule 86 = .ok (.iload 4, 2) := by decide +kernel
theorem dX9_pricedRule_88 : decode cX9_pricedRule 88 = .ok (.iload_n 3, 1) := by decide +kernel
theorem dX9_pricedRule_89 : decode cX9_pricedRule 89 = .ok (.invokevirtual 350, 3) := by decide +kernel
theorem dX9_pricedRule_92 : decode cX9_pricedRule 92 = .ok (.iinc 4 1, 3) := by decide +kernel
theorem dX9_pricedRule_95 : decode cX9_pricedRule 95 = .ok (.goto (-36), 3) := by decide +kernel
theorem dX9_pricedRule_98 : decode cX9_pricedRule 98 = .ok (.iinc 3 1, 3) := by decide +kernel
theorem dX9_pricedRule_101 : decode cX9_pricedRule 101 = .ok (.goto (-53), 3) := by decide +kernel
theorem dX9_pricedRule_104 : decode cX9_pricedRule 104 = .ok (.aload_n 2, 1) := by decide +kernel
theorem dX9_pricedRule_105 : decode cX9_pricedRule 105 = .ok (.areturn, 1) := by decide +kernel
theorem dX9_payPrices_0 : decode cX9_payPrices 0 = .ok (.aload_n 0, 1) := by decide +kernel
theorem dX9_payPrices_1 : decode cX9_payPrices 1 = .ok (.getfield 49, 3) := by decide +kernel
theorem dX9_payPrices_4 : decode cX9_payPrices 4 = .ok (.aload_n 1, 1) := by decide +kernel
theorem dX9_payPrices_5 : decode cX9_payPrices 5 = .ok (.iload_n 2, 1) := by decide +kernel
theorem dX9_payPrices_6 : decode cX9_payPrices 6 = .ok (.iload_n 3, 1) := by decide +kernel
theorem dX9_payPrices_7 : decode cX9_payPrices 7 = .ok (.invokevirtual 204, 3) := by decide +kernel
theorem dX9_payPrices_10 : decode cX9_payPrices 10 = .ok (.aload_n 0, 1) := by decide +kernel
theorem dX9_payPrices_11 : decode cX9_payPrices 11 = .ok (.getfield 49, 3) := by decide +kernel
theorem dX9_payPrices_14 : decode cX9_payPrices 14 = .ok (.invokevirtual 354, 3) := by decide +kernel
theorem dX9_payPrices_17 : decode cX9_payPrices 17 = .ok (.iconst 0, 1) := by decide +kernel
theorem dX9_payPrices_18 : decode cX9_payPrices 18 = .ok (.istore 4, 2) := by decide +kernel
theorem dX9_payPrices_20 : decode cX9_payPrices 20 = .ok (.iload 4, 2) := by decide +kernel
theorem dX9_payPrices_22 : decode cX9_payPrices 22 = .ok (.aload_n 0, 1) := by decide +kernel
theorem dX9_payPrices_23 : decode cX9_payPrices 23 = .ok (.getfield 27, 3) := by decide +kernel
theorem dX9_payPrices_26 : decode cX9_payPrices 26 = .ok (.getfield 69, 3) := by decide +kernel
theorem dX9_payPrices_29 : decode cX9_payPrices 29 = .ok (.if_icmp .ge 43, 3) := by decide +kernel
theorem dX9_payPrices_32 : decode cX9_payPrices 32 = .ok (.aload_n 0, 1) := by decide +kernel
theorem dX9_payPrices_33 : decode cX9_payPrices 33 = .ok (.getfield 27, 3) := by decide +kernel
theorem dX9_payPrices_36 : decode cX9_payPrices 36 = .ok (.iload_n 2, 1) := by decide +kernel
theorem dX9_payPrices_37 : decode cX9_payPrices 37 = .ok (.iload_n 3, 1) := by decide +kernel
theorem dX9_payPrices_38 : decode cX9_payPrices 38 = .ok (.iload 4, 2) := by decide +kernel
theorem dX9_payPrices_40 : decode cX9_payPrices 40 = .ok (.invokevirtual 144, 3) := by decide +kernel
theorem dX9_payPrices_43 : decode cX9_payPrices 43 = .ok (.istore 5, 2) := by decide +kernel
theorem dX9_payPrices_45 : decode cX9_payPrices 45 = .ok (.aload_n 1, 1) := by decide +kernel
theorem dX9_payPrices_46 : decode cX9_payPrices 46 = .ok (.iload 5, 2) := by decide +kernel
theorem dX9_payPrices_48 : decode cX9_payPrices 48 = .ok (.iload_n 3, 1) := by decide +kernel
theorem dX9_payPrices_49 : decode cX9_payPrices 49 = .ok (.aload_n 0, 1) := by decide +kernel
theorem dX9_payPrices_50 : decode cX9_payPrices 50 = .ok (.getfield 49, 3) := by decide +kernel
theorem dX9_payPrices_53 : decode cX9_payPrices 53 = .ok (.aload_n 1, 1) := by decide +kernel
theorem dX9_payPrices_54 : decode cX9_payPrices 54 = .ok (.iload 5, 2) := by decide +kernel
theorem dX9_payPrices_56 : decode cX9_payPrices 56 = .ok (.invokevirtual 357, 3) := by decide +kernel
theorem dX9_payPrices_59 : decode cX9_payPrices 59 = .ok (.invokevirtual 228, 3) := by decide +kernel
theorem dX9_payPrices_62 : decode cX9_payPrices 62 = .ok (.invokevirtual 358, 3) := by decide +kernel
theorem dX9_payPrices_65 : decode cX9_payPrices 65 = .ok (.pop, 1) := by decide +kernel
theorem dX9_payPrices_66 : decode cX9_payPrices 66 = .ok (.iinc 4 1, 3) := by decide +kernel
theorem dX9_payPrices_69 : decode cX9_payPrices 69 = .ok (.goto (-49), 3) := by decide +kernel
theorem dX9_payPrices_72 : decode cX9_payPrices 72 = .ok (.return_, 1) := by decide +kernel
theorem dX9_firstLie_0 : decode cX9_firstLie 0 = .ok (.iconst 0, 1) := by decide +kernel
theorem dX9_firstLie_1 : decode cX9_firstLie 1 = .ok (.istore_n 3, 1) := by decide +kernel
theorem dX9_firstLie_2 : decode cX9_firstLie 2 = .ok (.iload_n 3, 1) := by decide +kernel
theorem dX9_firstLie_3 : decode cX9_firstLie 3 = .ok (.aload_n 0, 1) := by decide +kernel
theorem dX9_firstLie_4 : decode cX9_firstLie 4 = .ok (.getfield 27, 3) := by decide +kernel
theorem dX9_firstLie_7 : decode cX9_firstLie 7 = .ok (.getfield 162, 3) := by decide +kernel
theorem dX9_firstLie_10 : decode cX9_firstLie 10 = .ok (.if_icmp .ge 113, 3) := by decide +kernel
theorem dX9_firstLie_13 : decode cX9_firstLie 13 = .ok (.iconst 0, 1) := by decide +kernel
theorem dX9_firstLie_14 : decode cX9_firstLie 14 = .ok (.istore 4, 2) := by decide +kernel
theorem dX9_firstLie_16 : decode cX9_firstLie 16 = .ok (.iload 4, 2) := by decide +kernel
theorem dX9_firstLie_18 : decode cX9_firstLie 18 = .ok (.aload_n 0, 1) := by decide +kernel
theorem dX9_firstLie_19 : decode cX9_firstLie 19 = .ok (.getfield 18, 3) := by decide +kernel
theorem dX9_firstLie_22 : decode cX9_firstLie 22 = .ok (.if_icmp .ge 95, 3) := by decide +kernel
theorem dX9_firstLie_25 : decode cX9_firstLie 25 = .ok (.aload_n 0, 1) := by decide +kernel
theorem dX9_firstLie_26 : decode cX9_firstLie 26 = .ok (.getfield 27, 3) := by decide +kernel
theorem dX9_firstLie_29 : decode cX9_firstLie 29 = .ok (.iload_n 3, 1) := by decide +kernel
theorem dX9_firstLie_30 : decode cX9_firstLie 30 = .ok (.iload 4, 2) := by decide +kernel
theorem dX9_firstLie_32 : decode cX9_firstLie 32 = .ok (.invokevirtual 149, 3) := by decide +kernel
theorem dX9_firstLie_35 : decode cX9_firstLie 35 = .ok (.istore 5, 2) := by decide +kernel
theorem dX9_firstLie_37 : decode cX9_firstLie 37 = .ok (.aload_n 1, 1) := by decide +kernel
theorem dX9_firstLie_38 : decode cX9_firstLie 38 = .ok (.iload_n 3, 1) := by decide +kernel
theorem dX9_firstLie_39 : decode cX9_firstLie 39 = .ok (.iload 4, 2) := by decide +kernel
theorem dX9_firstLie_41 : decode cX9_firstLie 41 = .ok (.iload 5, 2) := by decide +kernel
theorem dX9_firstLie_43 : decode cX9_firstLie 43 = .ok (.invokevirtual 152, 3) := by decide +kernel
theorem dX9_firstLie_46 : decode cX9_firstLie 46 = .ok (.istore 6, 2) := by decide +kernel
theorem dX9_firstLie_48 : decode cX9_firstLie 48 = .ok (.iconst 0, 1) := by decide +kernel
theorem dX9_firstLie_49 : decode cX9_firstLie 49 = .ok (.istore 7, 2) := by decide +kernel
theorem dX9_firstLie_51 : decode cX9_firstLie 51 = .ok (.iload 7, 2) := by decide +kernel
theorem dX9_firstLie_53 : decode cX9_firstLie 53 = .ok (.aload_n 0, 1) := by decide +kernel
theorem dX9_firstLie_54 : decode cX9_firstLie 54 = .ok (.getfield 27, 3) := by decide +kernel
theorem dX9_firstLie_57 : decode cX9_firstLie 57 = .ok (.getfield 69, 3) := by decide +kernel
theorem dX9_firstLie_60 : decode cX9_firstLie 60 = .ok (.if_icmp .ge 51, 3) := by decide +kernel
theorem dX9_firstLie_63 : decode cX9_firstLie 63 = .ok (.aload_n 1, 1) := by decide +kernel
theorem dX9_firstLie_64 : decode cX9_firstLie 64 = .ok (.aload_n 0, 1) := by decide +kernel
theorem dX9_firstLie_65 : decode cX9_firstLie 65 = .ok (.getfield 27, 3) := by decide +kernel
theorem dX9_firstLie_68 : decode cX9_firstLie 68 = .ok (.iload_n 3, 1) := by decide +kernel
theorem dX9_firstLie_69 : decode cX9_firstLie 69 = .ok (.iload 4, 2) := by decide +kernel
theorem dX9_firstLie_71 : decode cX9_firstLie 71 = .ok (.iload 7, 2) := by decide +kernel
theorem dX9_firstLie_73 : decode cX9_firstLie 73 = .ok (.invokevirtual 144, 3) := by decide +kernel
theorem dX9_firstLie_76 : decode cX9_firstLie 76 = .ok (.iload 4, 2) := by decide +kernel
theorem dX9_firstLie_78 : decode cX9_firstLie 78 = .ok (.iload 5, 2) := by decide +kernel
theorem dX9_firstLie_80 : decode cX9_firstLie 80 = .ok (.invokevirtual 152, 3) := by decide +kernel
theorem dX9_firstLie_83 : decode cX9_firstLie 83 = .ok (.iload 6, 2) := by decide +kernel
theorem dX9_firstLie_85 : decode cX9_firstLie 85 = .ok (.isub, 1) := by decide +kernel
theorem dX9_firstLie_86 : decode cX9_firstLie 86 = .ok (.istore 8, 2) := by decide +kernel
theorem dX9_firstLie_88 : decode cX9_firstLie 88 = .ok (.iload 8, 2) := by decide +kernel
theorem dX9_firstLie_90 : decode cX9_firstLie 90 = .ok (.ifCond .le 15, 3) := by decide +kernel
theorem dX9_firstLie_93 : decode cX9_firstLie 93 = .ok (.iload_n 2, 1) := by decide +kernel
theorem dX9_firstLie_94 : decode cX9_firstLie 94 = .ok (.iload_n 3, 1) := by decide +kernel
theorem dX9_firstLie_95 : decode cX9_firstLie 95 = .ok (.iload 4, 2) := by decide +kernel
theorem dX9_firstLie_97 : decode cX9_firstLie 97 = .ok (.iload 7, 2) := by decide +kernel
theorem dX9_firstLie_99 : decode cX9_firstLie 99 = .ok (.iload 8, 2) := by decide +kernel
theorem dX9_firstLie_101 : decode cX9_firstLie 101 = .ok (.invokestatic 359, 3) := by decide +kernel
theorem dX9_firstLie_104 : decode cX9_firstLie 104 = .ok (.ireturn, 1) := by decide +kernel
theorem dX9_firstLie_105 : decode cX9_firstLie 105 = .ok (.iinc 7 1, 3) := by decide +kernel
theorem dX9_firstLie_108 : decode cX9_firstLie 108 = .ok (.goto (-57), 3) := by decide +kernel
theorem dX9_firstLie_111 : decode cX9_firstLie 111 = .ok (.iinc 4 1, 3) := by decide +kernel
theorem dX9_firstLie_114 : decode cX9_firstLie 114 = .ok (.goto (-98), 3) := by decide +kernel
theorem dX9_firstLie_117 : decode cX9_firstLie 117 = .ok (.iinc 3 1, 3) := by decide +kernel
theorem dX9_firstLie_120 : decode cX9_firstLie 120 = .ok (.goto (-118), 3) := by decide +kernel
theorem dX9_firstLie_123 : decode cX9_firstLie 123 = .ok (.bipush (-2), 2) := by decide +kernel
theorem dX9_firstLie_125 : decode cX9_firstLie 125 = .ok (.ireturn, 1) := by decide +kernel
theorem dX9_partOfLie_0 : decode cX9_partOfLie 0 = .ok (.iload_n 0, 1) := by decide +kernel
theorem dX9_partOfLie_1 : decode cX9_partOfLie 1 = .ok (.tableswitch 33 0 2 #[27, 29, 31], 27) := by decide +kernel
theorem dX9_partOfLie_28 : decode cX9_partOfLie 28 = .ok (.iload_n 1, 1) := by decide +kernel
theorem dX9_partOfLie_29 : decode cX9_partOfLie 29 = .ok (.ireturn, 1) := by decide +kernel
theorem dX9_partOfLie_30 : decode cX9_partOfLie 30 = .ok (.iload_n 2, 1) := by decide +kernel
theorem dX9_partOfLie_31 : decode cX9_partOfLie 31 = .ok (.ireturn, 1) := by decide +kernel
theorem dX9_partOfLie_32 : decode cX9_partOfLie 32 = .ok (.iload_n 3, 1) := by decide +kernel
theorem dX9_partOfLie_33 : decode cX9_partOfLie 33 = .ok (.ireturn, 1) := by decide +kernel
theorem dX9_partOfLie_34 : decode cX9_partOfLie 34 = .ok (.iload 4, 2) := by decide +kernel
theorem dX9_partOfLie_36 : decode cX9_partOfLie 36 = .ok (.ireturn, 1) := by decide +kernel
theorem dX9_liesAt_0 : decode cX9_liesAt 0 = .ok (.aload_n 0, 1) := by decide +kernel
theorem dX9_liesAt_1 : decode cX9_liesAt 1 = .ok (.getfield 27, 3) := by decide +kernel
theorem dX9_liesAt_4 : decode cX9_liesAt 4 = .ok (.iload_n 2, 1) := by decide +kernel
theorem dX9_liesAt_5 : decode cX9_liesAt 5 = .ok (.iload_n 3, 1) := by decide +kernel
theorem dX9_liesAt_6 : decode cX9_liesAt 6 = .ok (.invokevirtual 149, 3) := by decide +kernel
theorem dX9_liesAt_9 : decode cX9_liesAt 9 = .ok (.istore 4, 2) := by decide +kernel
theorem dX9_liesAt_11 : decode cX9_liesAt 11 = .ok (.aload_n 1, 1) := by decide +kernel
theorem dX9_liesAt_12 : decode cX9_liesAt 12 = .ok (.iload_n 2, 1) := by decide +kernel
theorem dX9_liesAt_13 : decode cX9_liesAt 13 = .ok (.iload_n 3, 1) := by decide +kernel
theorem dX9_liesAt_14 : decode cX9_liesAt 14 = .ok (.iload 4, 2) := by decide +kernel
theorem dX9_liesAt_16 : decode cX9_liesAt 16 = .ok (.invokevirtual 152, 3) := by decide +kernel
theorem dX9_liesAt_19 : decode cX9_liesAt 19 = .ok (.istore 5, 2) := by decide +kernel
theorem dX9_liesAt_21 : decode cX9_liesAt 21 = .ok (.iconst 0, 1) := by decide +kernel
theorem dX9_liesAt_22 : decode cX9_liesAt 22 = .ok (.istore 6, 2) := by decide +kernel
theorem dX9_liesAt_24 : decode cX9_liesAt 24 = .ok (.iconst 0, 1) := by decide +kernel
theorem dX9_liesAt_25 : decode cX9_liesAt 25 = .ok (.istore 7, 2) := by decide +kernel
theorem dX9_liesAt_27 : decode cX9_liesAt 27 = .ok (.iload 7, 2) := by decide +kernel
theorem dX9_liesAt_29 : decode cX9_liesAt 29 = .ok (.aload_n 0, 1) := by decide +kernel
theorem dX9_liesAt_30 : decode cX9_liesAt 30 = .ok (.getfield 27, 3) := by decide +kernel
theorem dX9_liesAt_33 : decode cX9_liesAt 33 = .ok (.getfield 69, 3) := by decide +kernel
theorem dX9_liesAt_36 : decode cX9_liesAt 36 = .ok (.if_icmp .ge 35, 3) := by decide +kernel
theorem dX9_liesAt_39 : decode cX9_liesAt 39 = .ok (.aload_n 1, 1) := by decide +kernel
theorem dX9_liesAt_40 : decode cX9_liesAt 40 = .ok (.aload_n 0, 1) := by decide +kernel
theorem dX9_liesAt_41 : decode cX9_liesAt 41 = .ok (.getfield 27, 3) := by decide +kernel
theorem dX9_liesAt_44 : decode cX9_liesAt 44 = .ok (.iload_n 2, 1) := by decide +kernel
theorem dX9_liesAt_45 : decode cX9_liesAt 45 = .ok (.iload_n 3, 1) := by decide +kernel
theorem dX9_liesAt_46 : decode cX9_liesAt 46 = .ok (.iload 7, 2) := by decide +kernel
theorem dX9_liesAt_48 : decode cX9_liesAt 48 = .ok (.invokevirtual 144, 3) := by decide +kernel
theorem dX9_liesAt_51 : decode cX9_liesAt 51 = .ok (.iload_n 3, 1) := by decide +kernel
theorem dX9_liesAt_52 : decode cX9_liesAt 52 = .ok (.iload 4, 2) := by decide +kernel
theorem dX9_liesAt_54 : decode cX9_liesAt 54 = .ok (.invokevirtual 152, 3) := by decide +kernel
theorem dX9_liesAt_57 : decode cX9_liesAt 57 = .ok (.iload 5, 2) := by decide +kernel
theorem dX9_liesAt_59 : decode cX9_liesAt 59 = .ok (.if_icmp .le 6, 3) := by decide +kernel
theorem dX9_liesAt_62 : decode cX9_liesAt 62 = .ok (.iinc 6 1, 3) := by decide +kernel
theorem dX9_liesAt_65 : decode cX9_liesAt 65 = .ok (.iinc 7 1, 3) := by decide +kernel
theorem dX9_liesAt_68 : decode cX9_liesAt 68 = .ok (.goto (-41), 3) := by decide +kernel
theorem dX9_liesAt_71 : decode cX9_liesAt 71 = .ok (.iload 6, 2) := by decide +kernel
theorem dX9_liesAt_73 : decode cX9_liesAt 73 = .ok (.ireturn, 1) := by decide +kernel
theorem dX9_isDictator_0 : decode cX9_isDictator 0 = .ok (.iconst 0, 1) := by decide +kernel
theorem dX9_isDictator_1 : decode cX9_isDictator 1 = .ok (.istore_n 3, 1) := by decide +kernel
theorem dX9_isDictator_2 : decode cX9_isDictator 2 = .ok (.iload_n 3, 1) := by decide +kernel
theorem dX9_isDictator_3 : decode cX9_isDictator 3 = .ok (.aload_n 0, 1) := by decide +kernel
theorem dX9_isDictator_4 : decode cX9_isDictator 4 = .ok (.getfield 27, 3) := by decide +kernel
theorem dX9_isDictator_7 : decode cX9_isDictator 7 = .ok (.getfield 162, 3) := by decide +kernel
theorem dX9_isDictator_10 : decode cX9_isDictator 10 = .ok (.if_icmp .ge 35, 3) := by decide +kernel
theorem dX9_isDictator_13 : decode cX9_isDictator 13 = .ok (.aload_n 1, 1) := by decide +kernel
theorem dX9_isDictator_14 : decode cX9_isDictator 14 = .ok (.iload_n 3, 1) := by decide +kernel
theorem dX9_isDictator_15 : decode cX9_isDictator 15 = .ok (.invokevirtual 130, 3) := by decide +kernel
theorem dX9_isDictator_18 : decode cX9_isDictator 18 = .ok (.aload_n 0, 1) := by decide +kernel
theorem dX9_isDictator_19 : decode cX9_isDictator 19 = .ok (.getfield 27, 3) := by decide +kernel
theorem dX9_isDictator_22 : decode cX9_isDictator 22 = .ok (.aload_n 0, 1) := by decide +kernel
theorem dX9_isDictator_23 : decode cX9_isDictator 23 = .ok (.getfield 27, 3) := by decide +kernel
theorem dX9_isDictator_26 : decode cX9_isDictator 26 = .ok (.iload_n 3, 1) := by decide +kernel
theorem dX9_isDictator_27 : decode cX9_isDictator 27 = .ok (.iload_n 2, 1) := by decide +kernel
theorem dX9_isDictator_28 : decode cX9_isDictator 28 = .ok (.invokevirtual 149, 3) := by decide +kernel
theorem dX9_isDictator_31 : decode cX9_isDictator 31 = .ok (.invokevirtual 363, 3) := by decide +kernel
theorem dX9_isDictator_34 : decode cX9_isDictator 34 = .ok (.if_icmp .eq 5, 3) := by decide +kernel
theorem dX9_isDictator_37 : decode cX9_isDictator 37 = .ok (.iconst 0, 1) := by decide +kernel
theorem dX9_isDictator_38 : decode cX9_isDictator 38 = .ok (.ireturn, 1) := by decide +kernel
theorem dX9_isDictator_39 : decode cX9_isDictator 39 = .ok (.iinc 3 1, 3) := by decide +kernel
theorem dX9_isDictator_42 : decode cX9_isDictator 42 = .ok (.goto (-40), 3) := by decide +kernel
theorem dX9_isDictator_45 : decode cX9_isDictator 45 = .ok (.iconst 1, 1) := by decide +kernel
theorem dX9_isDictator_46 : decode cX9_isDictator 46 = .ok (.ireturn, 1) := by decide +kernel
theorem dX9_paidByAll_0 : decode cX9_paidByAll 0 = .ok (.iconst 0, 1) := by decide +kernel
theorem dX9_paidByAll_1 : decode cX9_paidByAll 1 = .ok (.istore_n 3, 1) := by decide +kernel
theorem dX9_paidByAll_2 : decode cX9_paidByAll 2 = .ok (.iconst 0, 1) := by decide +kernel
theorem dX9_paidByAll_3 : decode cX9_paidByAll 3 = .ok (.istore 4, 2) := by decide +kernel
theorem dX9_paidByAll_5 : decode cX9_paidByAll 5 = .ok (.iload 4, 2) := by decide +kernel
theorem dX9_paidByAll_7 : decode cX9_paidByAll 7 = .ok (.aload_n 0, 1) := by decide +kernel
theorem dX9_paidByAll_8 : decode cX9_paidByAll 8 = .ok (.getfield 18, 3) := by decide +kernel
theorem dX9_paidByAll_11 : decode cX9_paidByAll 11 = .ok (.if_icmp .ge 19, 3) := by decide +kernel
theorem dX9_paidByAll_14 : decode cX9_paidByAll 14 = .ok (.iload_n 3, 1) := by decide +kernel
theorem dX9_paidByAll_15 : decode cX9_paidByAll 15 = .ok (.aload_n 1, 1) := by decide +kernel
theorem dX9_paidByAll_16 : decode cX9_paidByAll 16 = .ok (.iload_n 2, 1) := by decide +kernel
theorem dX9_paidByAll_17 : decode cX9_paidByAll 17 = .ok (.iload 4, 2) := by decide +kernel
theorem dX9_paidByAll_19 : decode cX9_paidByAll 19 = .ok (.invokevirtual 141, 3) := by decide +kernel
theorem dX9_paidByAll_22 : decode cX9_paidByAll 22 = .ok (.iadd, 1) := by decide +kernel
theorem dX9_paidByAll_23 : decode cX9_paidByAll 23 = .ok (.istore_n 3, 1) := by decide +kernel
theorem dX9_paidByAll_24 : decode cX9_paidByAll 24 = .ok (.iinc 4 1, 3) := by decide +kernel
theorem dX9_paidByAll_27 : decode cX9_paidByAll 27 = .ok (.goto (-22), 3) := by decide +kernel
theorem dX9_paidByAll_30 : decode cX9_paidByAll 30 = .ok (.iload_n 3, 1) := by decide +kernel
theorem dX9_paidByAll_31 : decode cX9_paidByAll 31 = .ok (.ireturn, 1) := by decide +kernel
theorem dX9_isSameAt_0 : decode cX9_isSameAt 0 = .ok (.aload_n 1, 1) := by decide +kernel
theorem dX9_isSameAt_1 : decode cX9_isSameAt 1 = .ok (.iload_n 3, 1) := by decide +kernel
theorem dX9_isSameAt_2 : decode cX9_isSameAt 2 = .ok (.invokevirtual 130, 3) := by decide +kernel
theorem dX9_isSameAt_5 : decode cX9_isSameAt 5 = .ok (.aload_n 2, 1) := by decide +kernel
theorem dX9_isSameAt_6 : decode cX9_isSameAt 6 = .ok (.iload_n 3, 1) := by decide +kernel
theorem dX9_isSameAt_7 : decode cX9_isSameAt 7 = .ok (.invokevirtual 130, 3) := by decide +kernel
theorem dX9_isSameAt_10 : decode cX9_isSameAt 10 = .ok (.if_icmp .eq 5, 3) := by decide +kernel
theorem dX9_isSameAt_13 : decode cX9_isSameAt 13 = .ok (.iconst 0, 1) := by decide +kernel
theorem dX9_isSameAt_14 : decode cX9_isSameAt 14 = .ok (.ireturn, 1) := by decide +kernel
theorem dX9_isSameAt_15 : decode cX9_isSameAt 15 = .ok (.iconst 0, 1) := by decide +kernel
theorem dX9_isSameAt_16 : decode cX9_isSameAt 16 = .ok (.istore 4, 2) := by decide +kernel
theorem dX9_isSameAt_18 : decode cX9_isSameAt 18 = .ok (.iload 4, 2) := by decide +kernel
theorem dX9_isSameAt_20 : decode cX9_isSameAt 20 = .ok (.aload_n 0, 1) := by decide +kernel
theorem dX9_isSameAt_21 : decode cX9_isSameAt 21 = .ok (.getfield 18, 3) := by decide +kernel
theorem dX9_isSameAt_24 : decode cX9_isSameAt 24 = .ok (.if_icmp .ge 28, 3) := by decide +kernel
theorem dX9_isSameAt_27 : decode cX9_isSameAt 27 = .ok (.aload_n 1, 1) := by decide +kernel
theorem dX9_isSameAt_28 : decode cX9_isSameAt 28 = .ok (.iload_n 3, 1) := by decide +kernel
theorem dX9_isSameAt_29 : decode cX9_isSameAt 29 = .ok (.iload 4, 2) := by decide +kernel
theorem dX9_isSameAt_31 : decode cX9_isSameAt 31 = .ok (.invokevirtual 141, 3) := by decide +kernel
theorem dX9_isSameAt_34 : decode cX9_isSameAt 34 = .ok (.aload_n 2, 1) := by decide +kernel
theorem dX9_isSameAt_35 : decode cX9_isSameAt 35 = .ok (.iload_n 3, 1) := by decide +kernel
theorem dX9_isSameAt_36 : decode cX9_isSameAt 36 = .ok (.iload 4, 2) := by decide +kernel
theorem dX9_isSameAt_38 : decode cX9_isSameAt 38 = .ok (.invokevirtual 141, 3) := by decide +kernel
theorem dX9_isSameAt_41 : decode cX9_isSameAt 41 = .ok (.if_icmp .eq 5, 3) := by decide +kernel
theorem dX9_isSameAt_44 : decode cX9_isSameAt 44 = .ok (.iconst 0, 1) := by decide +kernel
theorem dX9_isSameAt_45 : decode cX9_isSameAt 45 = .ok (.ireturn, 1) := by decide +kernel
theorem dX9_isSameAt_46 : decode cX9_isSameAt 46 = .ok (.iinc 4 1, 3) := by decide +kernel
theorem dX9_isSameAt_49 : decode cX9_isSameAt 49 = .ok (.goto (-31), 3) := by decide +kernel
theorem dX9_isSameAt_52 : decode cX9_isSameAt 52 = .ok (.iconst 1, 1) := by decide +kernel
theorem dX9_isSameAt_53 : decode cX9_isSameAt 53 = .ok (.ireturn, 1) := by decide +kernel
theorem dX9_isFairAt_0 : decode cX9_isFairAt 0 = .ok (.aload_n 1, 1) := by decide +kernel
theorem dX9_isFairAt_1 : decode cX9_isFairAt 1 = .ok (.iload_n 2, 1) := by decide +kernel
theorem dX9_isFairAt_2 : decode cX9_isFairAt 2 = .ok (.invokevirtual 130, 3) := by decide +kernel
theorem dX9_isFairAt_5 : decode cX9_isFairAt 5 = .ok (.istore_n 3, 1) := by decide +kernel
theorem dX9_isFairAt_6 : decode cX9_isFairAt 6 = .ok (.iconst 0, 1) := by decide +kernel
theorem dX9_isFairAt_7 : decode cX9_isFairAt 7 = .ok (.istore 4, 2) := by decide +kernel
theorem dX9_isFairAt_9 : decode cX9_isFairAt 9 = .ok (.iload 4, 2) := by decide +kernel
theorem dX9_isFairAt_11 : decode cX9_isFairAt 11 = .ok (.iconst 1, 1) := by decide +kernel
theorem dX9_isFairAt_12 : decode cX9_isFairAt 12 = .ok (.iadd, 1) := by decide +kernel
theorem dX9_isFairAt_13 : decode cX9_isFairAt 13 = .ok (.aload_n 0, 1) := by decide +kernel
theorem dX9_isFairAt_14 : decode cX9_isFairAt 14 = .ok (.getfield 18, 3) := by decide +kernel
theorem dX9_isFairAt_17 : decode cX9_isFairAt 17 = .ok (.if_icmp .ge 74, 3) := by decide +kernel
theorem dX9_isFairAt_20 : decode cX9_isFairAt 20 = .ok (.aload_n 0, 1) := by decide +kernel
theorem dX9_isFairAt_21 : decode cX9_isFairAt 21 = .ok (.getfield 27, 3) := by decide +kernel
theorem dX9_isFairAt_24 : decode cX9_isFairAt 24 = .ok (.iload_n 2, 1) := by decide +kernel
theorem dX9_isFairAt_25 : decode cX9_isFairAt 25 = .ok (.iload 4, 2) := by decide +kernel
theorem dX9_isFairAt_27 : decode cX9_isFairAt 27 = .ok (.invokevirtual 149, 3) := by decide +kernel
theorem dX9_isFairAt_30 : decode cX9_isFairAt 30 = .ok (.istore 5, 2) := by decide +kernel
theorem dX9_isFairAt_32 : decode cX9_isFairAt 32 = .ok (.aload_n 0, 1) := by decide +kernel
theorem dX9_isFairAt_33 : decode cX9_isFairAt 33 = .ok (.getfield 27, 3) := by decide +kernel
theorem dX9_isFairAt_36 : decode cX9_isFairAt 36 = .ok (.iload_n 2, 1) := by decide +kernel
theorem dX9_isFairAt_37 : decode cX9_isFairAt 37 = .ok (.iload 4, 2) := by decide +kernel
theorem dX9_isFairAt_39 : decode cX9_isFairAt 39 = .ok (.iconst 1, 1) := by decide +kernel
theorem dX9_isFairAt_40 : decode cX9_isFairAt 40 = .ok (.iadd, 1) := by decide +kernel
theorem dX9_isFairAt_41 : decode cX9_isFairAt 41 = .ok (.invokevirtual 149, 3) := by decide +kernel
theorem dX9_isFairAt_44 : decode cX9_isFairAt 44 = .ok (.istore 6, 2) := by decide +kernel
theorem dX9_isFairAt_46 : decode cX9_isFairAt 46 = .ok (.aload_n 0, 1) := by decide +kernel
theorem dX9_isFairAt_47 : decode cX9_isFairAt 47 = .ok (.getfield 27, 3) := by decide +kernel
theorem dX9_isFairAt_50 : decode cX9_isFairAt 50 = .ok (.iload_n 2, 1) := by decide +kernel
theorem dX9_isFairAt_51 : decode cX9_isFairAt 51 = .ok (.iload 4, 2) := by decide +kernel
theorem dX9_isFairAt_53 : decode cX9_isFairAt 53 = .ok (.iload 6, 2) := by decide +kernel
theorem dX9_isFairAt_55 : decode cX9_isFairAt 55 = .ok (.invokevirtual 144, 3) := by decide +kernel
theorem dX9_isFairAt_58 : decode cX9_isFairAt 58 = .ok (.istore 7, 2) := by decide +kernel
theorem dX9_isFairAt_60 : decode cX9_isFairAt 60 = .ok (.aload_n 1, 1) := by decide +kernel
theorem dX9_isFairAt_61 : decode cX9_isFairAt 61 = .ok (.aload_n 0, 1) := by decide +kernel
theorem dX9_isFairAt_62 : decode cX9_isFairAt 62 = .ok (.getfield 27, 3) := by decide +kernel
theorem dX9_isFairAt_65 : decode cX9_isFairAt 65 = .ok (.iload 7, 2) := by decide +kernel
theorem dX9_isFairAt_67 : decode cX9_isFairAt 67 = .ok (.iload 4, 2) := by decide +kernel
theorem dX9_isFairAt_69 : decode cX9_isFairAt 69 = .ok (.iconst 1, 1) := by decide +kernel
theorem dX9_isFairAt_70 : decode cX9_isFairAt 70 = .ok (.iadd, 1) := by decide +kernel
theorem dX9_isFairAt_71 : decode cX9_isFairAt 71 = .ok (.iload 5, 2) := by decide +kernel
theorem dX9_isFairAt_73 : decode cX9_isFairAt 73 = .ok (.invokevirtual 144, 3) := by decide +kernel
theorem dX9_isFairAt_76 : decode cX9_isFairAt 76 = .ok (.invokevirtual 130, 3) := by decide +kernel
theorem dX9_isFairAt_79 : decode cX9_isFairAt 79 = .ok (.iload_n 3, 1) := by decide +kernel
theorem dX9_isFairAt_80 : decode cX9_isFairAt 80 = .ok (.if_icmp .eq 5, 3) := by decide +kernel
theorem dX9_isFairAt_83 : decode cX9_isFairAt 83 = .ok (.iconst 0, 1) := by decide +kernel
theorem dX9_isFairAt_84 : decode cX9_isFairAt 84 = .ok (.ireturn, 1) := by decide +kernel
theorem dX9_isFairAt_85 : decode cX9_isFairAt 85 = .ok (.iinc 4 1, 3) := by decide +kernel
theorem dX9_isFairAt_88 : decode cX9_isFairAt 88 = .ok (.goto (-79), 3) := by decide +kernel
theorem dX9_isFairAt_91 : decode cX9_isFairAt 91 = .ok (.iconst 1, 1) := by decide +kernel
theorem dX9_isFairAt_92 : decode cX9_isFairAt 92 = .ok (.ireturn, 1) := by decide +kernel
theorem dX9_firstRound_0 : decode cX9_firstRound 0 = .ok (.iconst 0, 1) := by decide +kernel
theorem dX9_firstRound_1 : decode cX9_firstRound 1 = .ok (.istore_n 3, 1) := by decide +kernel
theorem dX9_firstRound_2 : decode cX9_firstRound 2 = .ok (.iload_n 3, 1) := by decide +kernel
theorem dX9_firstRound_3 : decode cX9_firstRound 3 = .ok (.aload_n 0, 1) := by decide +kernel
theorem dX9_firstRound_4 : decode cX9_firstRound 4 = .ok (.getfield 18, 3) := by decide +kernel
theorem dX9_firstRound_7 : decode cX9_firstRound 7 = .ok (.if_icmp .ge 63, 3) := by decide +kernel
theorem dX9_firstRound_10 : decode cX9_firstRound 10 = .ok (.iconst 0, 1) := by decide +kernel
theorem dX9_firstRound_11 : decode cX9_firstRound 11 = .ok (.istore 4, 2) := by decide +kernel
theorem dX9_firstRound_13 : decode cX9_firstRound 13 = .ok (.iload 4, 2) := by decide +kernel
theorem dX9_firstRound_15 : decode cX9_firstRound 15 = .ok (.aload_n 0, 1) := by decide +kernel
theorem dX9_firstRound_16 : decode cX9_firstRound 16 = .ok (.getfield 27, 3) := by decide +kernel
theorem dX9_firstRound_19 : decode cX9_firstRound 19 = .ok (.getfield 162, 3) := by decide +kernel
theorem dX9_firstRound_22 : decode cX9_firstRound 22 = .ok (.if_icmp .ge 42, 3) := by decide +kernel
theorem dX9_firstRound_25 : decode cX9_firstRound 25 = .ok (.aload_n 0, 1) := by decide +kernel
theorem dX9_firstRound_26 : decode cX9_firstRound 26 = .ok (.getfield 27, 3) := by decide +kernel
theorem dX9_firstRound_29 : decode cX9_firstRound 29 = .ok (.iload 4, 2) := by decide +kernel
theorem dX9_firstRound_31 : decode cX9_firstRound 31 = .ok (.iload_n 3, 1) := by decide +kernel
theorem dX9_firstRound_32 : decode cX9_firstRound 32 = .ok (.invokevirtual 149, 3) := by decide +kernel
theorem dX9_firstRound_35 : decode cX9_firstRound 35 = .ok (.ifCond .ne 23, 3) := by decide +kernel
theorem dX9_firstRound_38 : decode cX9_firstRound 38 = .ok (.aload_n 0, 1) := by decide +kernel
theorem dX9_firstRound_39 : decode cX9_firstRound 39 = .ok (.aload_n 1, 1) := by decide +kernel
theorem dX9_firstRound_40 : decode cX9_firstRound 40 = .ok (.iload 4, 2) := by decide +kernel
theorem dX9_firstRound_42 : decode cX9_firstRound 42 = .ok (.iload_n 3, 1) := by decide +kernel
theorem dX9_firstRound_43 : decode cX9_firstRound 43 = .ok (.invokevirtual 366, 3) := by decide +kernel
theorem dX9_firstRound_46 : decode cX9_firstRound 46 = .ok (.ifCond .eq 12, 3) := by decide +kernel
theorem dX9_firstRound_49 : decode cX9_firstRound 49 = .ok (.aload_n 0, 1) := by decide +kernel
theorem dX9_firstRound_50 : decode cX9_firstRound 50 = .ok (.iload_n 2, 1) := by decide +kernel
theorem dX9_firstRound_51 : decode cX9_firstRound 51 = .ok (.iload_n 3, 1) := by decide +kernel
theorem dX9_firstRound_52 : decode cX9_firstRound 52 = .ok (.iload 4, 2) := by decide +kernel
theorem dX9_firstRound_54 : decode cX9_firstRound 54 = .ok (.invokevirtual 370, 3) := by decide +kernel
theorem dX9_firstRound_57 : decode cX9_firstRound 57 = .ok (.ireturn, 1) := by decide +kernel
theorem dX9_firstRound_58 : decode cX9_firstRound 58 = .ok (.iinc 4 1, 3) := by decide +kernel
theorem dX9_firstRound_61 : decode cX9_firstRound 61 = .ok (.goto (-48), 3) := by decide +kernel
theorem dX9_firstRound_64 : decode cX9_firstRound 64 = .ok (.iinc 3 1, 3) := by decide +kernel
theorem dX9_firstRound_67 : decode cX9_firstRound 67 = .ok (.goto (-65), 3) := by decide +kernel
theorem dX9_firstRound_70 : decode cX9_firstRound 70 = .ok (.bipush (-2), 2) := by decide +kernel
theorem dX9_firstRound_72 : decode cX9_firstRound 72 = .ok (.ireturn, 1) := by decide +kernel
theorem dX9_isRoundAt_0 : decode cX9_isRoundAt 0 = .ok (.aload_n 0, 1) := by decide +kernel
theorem dX9_isRoundAt_1 : decode cX9_isRoundAt 1 = .ok (.getfield 49, 3) := by decide +kernel
theorem dX9_isRoundAt_4 : decode cX9_isRoundAt 4 = .ok (.aload_n 1, 1) := by decide +kernel
theorem dX9_isRoundAt_5 : decode cX9_isRoundAt 5 = .ok (.iload_n 2, 1) := by decide +kernel
theorem dX9_isRoundAt_6 : decode cX9_isRoundAt 6 = .ok (.iload_n 3, 1) := by decide +kernel
theorem dX9_isRoundAt_7 : decode cX9_isRoundAt 7 = .ok (.invokevirtual 204, 3) := by decide +kernel
theorem dX9_isRoundAt_10 : decode cX9_isRoundAt 10 = .ok (.aload_n 0, 1) := by decide +kernel
theorem dX9_isRoundAt_11 : decode cX9_isRoundAt 11 = .ok (.getfield 49, 3) := by decide +kernel
theorem dX9_isRoundAt_14 : decode cX9_isRoundAt 14 = .ok (.invokevirtual 222, 3) := by decide +kernel
theorem dX9_isRoundAt_17 : decode cX9_isRoundAt 17 = .ok (.ireturn, 1) := by decide +kernel
theorem dX9_partOfRound_0 : decode cX9_partOfRound 0 = .ok (.iload_n 1, 1) := by decide +kernel
theorem dX9_partOfRound_1 : decode cX9_partOfRound 1 = .ok (.lookupswitch 31 #[(0, 27), (1, 29)], 27) := by decide +kernel
theorem dX9_partOfRound_28 : decode cX9_partOfRound 28 = .ok (.iload_n 2, 1) := by decide +kernel
theorem dX9_partOfRound_29 : decode cX9_partOfRound 29 = .ok (.ireturn, 1) := by decide +kernel
theorem dX9_partOfRound_30 : decode cX9_partOfRound 30 = .ok (.iload_n 3, 1) := by decide +kernel
theorem dX9_partOfRound_31 : decode cX9_partOfRound 31 = .ok (.ireturn, 1) := by decide +kernel
theorem dX9_partOfRound_32 : decode cX9_partOfRound 32 = .ok (.aload_n 0, 1) := by decide +kernel
theorem dX9_partOfRound_33 : decode cX9_partOfRound 33 = .ok (.getfield 49, 3) := by decide +kernel
theorem dX9_partOfRound_36 : decode cX9_partOfRound 36 = .ok (.invokevirtual 373, 3) := by decide +kernel
theorem dX9_partOfRound_39 : decode cX9_partOfRound 39 = .ok (.ineg, 1) := by decide +kernel
theorem dX9_partOfRound_40 : decode cX9_partOfRound 40 = .ok (.ireturn, 1) := by decide +kernel
theorem dX9_keepRule_0 : decode cX9_keepRule 0 = .ok (.aload_n 0, 1) := by decide +kernel
theorem dX9_keepRule_1 : decode cX9_keepRule 1 = .ok (.iload_n 2, 1) := by decide +kernel
theorem dX9_keepRule_2 : decode cX9_keepRule 2 = .ok (.invokevirtual 102, 3) := by decide +kernel
theorem dX9_keepRule_5 : decode cX9_keepRule 5 = .ok (.astore_n 3, 1) := by decide +kernel
theorem dX9_keepRule_6 : decode cX9_keepRule 6 = .ok (.aload_n 3, 1) := by decide +kernel
theorem dX9_keepRule_7 : decode cX9_keepRule 7 = .ok (.ifnonnull 5, 3) := by decide +kernel
theorem dX9_keepRule_10 : decode cX9_keepRule 10 = .ok (.iconst (-1), 1) := by decide +kernel
theorem dX9_keepRule_11 : decode cX9_keepRule 11 = .ok (.ireturn, 1) := by decide +kernel
theorem dX9_keepRule_12 : decode cX9_keepRule 12 = .ok (.aload_n 1, 1) := by decide +kernel
theorem dX9_keepRule_13 : decode cX9_keepRule 13 = .ok (.aload_n 3, 1) := by decide +kernel
theorem dX9_keepRule_14 : decode cX9_keepRule 14 = .ok (.invokevirtual 376, 3) := by decide +kernel
theorem dX9_keepRule_17 : decode cX9_keepRule 17 = .ok (.iconst 0, 1) := by decide +kernel
theorem dX9_keepRule_18 : decode cX9_keepRule 18 = .ok (.ireturn, 1) := by decide +kernel
theorem dX9_keepEnds_0 : decode cX9_keepEnds 0 = .ok (.aload_n 0, 1) := by decide +kernel
theorem dX9_keepEnds_1 : decode cX9_keepEnds 1 = .ok (.iload_n 2, 1) := by decide +kernel
theorem dX9_keepEnds_2 : decode cX9_keepEnds 2 = .ok (.invokevirtual 102, 3) := by decide +kernel
theorem dX9_keepEnds_5 : decode cX9_keepEnds 5 = .ok (.astore_n 3, 1) := by decide +kernel
theorem dX9_keepEnds_6 : decode cX9_keepEnds 6 = .ok (.aload_n 3, 1) := by decide +kernel
theorem dX9_keepEnds_7 : decode cX9_keepEnds 7 = .ok (.ifnonnull 5, 3) := by decide +kernel
theorem dX9_keepEnds_10 : decode cX9_keepEnds 10 = .ok (.iconst (-1), 1) := by decide +kernel
theorem dX9_keepEnds_11 : decode cX9_keepEnds 11 = .ok (.ireturn, 1) := by decide +kernel
theorem dX9_keepEnds_12 : decode cX9_keepEnds 12 = .ok (.aload_n 1, 1) := by decide +kernel
theorem dX9_keepEnds_13 : decode cX9_keepEnds 13 = .ok (.iconst 3, 1) := by decide +kernel
theorem dX9_keepEnds_14 : decode cX9_keepEnds 14 = .ok (.bipush 60, 2) := by decide +kernel
theorem dX9_keepEnds_16 : decode cX9_keepEnds 16 = .ok (.aload_n 0, 1) := by decide +kernel
theorem dX9_keepEnds_17 : decode cX9_keepEnds 17 = .ok (.getfield 27, 3) := by decide +kernel
theorem dX9_keepEnds_20 : decode cX9_keepEnds 20 = .ok (.getfield 162, 3) := by decide +kernel
theorem dX9_keepEnds_23 : decode cX9_keepEnds 23 = .ok (.invokestatic 192, 3) := by decide +kernel
theorem dX9_keepEnds_26 : decode cX9_keepEnds 26 = .ok (.invokevirtual 293, 3) := by decide +kernel
theorem dX9_keepEnds_29 : decode cX9_keepEnds 29 = .ok (.iconst 0, 1) := by decide +kernel
theorem dX9_keepEnds_30 : decode cX9_keepEnds 30 = .ok (.istore 4, 2) := by decide +kernel
theorem dX9_keepEnds_32 : decode cX9_keepEnds 32 = .ok (.iload 4, 2) := by decide +kernel
theorem dX9_keepEnds_34 : decode cX9_keepEnds 34 = .ok (.aload_n 1, 1) := by decide +kernel
theorem dX9_keepEnds_35 : decode cX9_keepEnds 35 = .ok (.getfield 301, 3) := by decide +kernel
theorem dX9_keepEnds_38 : decode cX9_keepEnds 38 = .ok (.if_icmp .ge 29, 3) := by decide +kernel
theorem dX9_keepEnds_41 : decode cX9_keepEnds 41 = .ok (.aload_n 3, 1) := by decide +kernel
theorem dX9_keepEnds_42 : decode cX9_keepEnds 42 = .ok (.iload 4, 2) := by decide +kernel
theorem dX9_keepEnds_44 : decode cX9_keepEnds 44 = .ok (.invokevirtual 127, 3) := by decide +kernel
theorem dX9_keepEnds_47 : decode cX9_keepEnds 47 = .ok (.aload_n 1, 1) := by decide +kernel
theorem dX9_keepEnds_48 : decode cX9_keepEnds 48 = .ok (.getfield 306, 3) := by decide +kernel
theorem dX9_keepEnds_51 : decode cX9_keepEnds 51 = .ok (.iload 4, 2) := by decide +kernel
theorem dX9_keepEnds_53 : decode cX9_keepEnds 53 = .ok (.aload_n 3, 1) := by decide +kernel
theorem dX9_keepEnds_54 : decode cX9_keepEnds 54 = .ok (.iload 4, 2) := by decide +kernel
theorem dX9_keepEnds_56 : decode cX9_keepEnds 56 = .ok (.invokevirtual 130, 3) := by decide +kernel
theorem dX9_keepEnds_59 : decode cX9_keepEnds 59 = .ok (.i2l, 1) := by decide +kernel
theorem dX9_keepEnds_60 : decode cX9_keepEnds 60 = .ok (.lastore, 1) := by decide +kernel
theorem dX9_keepEnds_61 : decode cX9_keepEnds 61 = .ok (.iinc 4 1, 3) := by decide +kernel
theorem dX9_keepEnds_64 : decode cX9_keepEnds 64 = .ok (.goto (-32), 3) := by decide +kernel
theorem dX9_keepEnds_67 : decode cX9_keepEnds 67 = .ok (.iconst 0, 1) := by decide +kernel
theorem dX9_keepEnds_68 : decode cX9_keepEnds 68 = .ok (.ireturn, 1) := by decide +kernel
theorem dX9_keepNumbers_0 : decode cX9_keepNumbers 0 = .ok (.aload_n 0, 1) := by decide +kernel
theorem dX9_keepNumbers_1 : decode cX9_keepNumbers 1 = .ok (.iload_n 2, 1) := by decide +kernel
theorem dX9_keepNumbers_2 : decode cX9_keepNumbers 2 = .ok (.invokevirtual 79, 3) := by decide +kernel
theorem dX9_keepNumbers_5 : decode cX9_keepNumbers 5 = .ok (.ifCond .ne 5, 3) := by decide +kernel
theorem dX9_keepNumbers_8 : decode cX9_keepNumbers 8 = .ok (.iconst (-1), 1) := by decide +kernel
theorem dX9_keepNumbers_9 : decode cX9_keepNumbers 9 = .ok (.ireturn, 1) := by decide +kernel
theorem dX9_keepNumbers_10 : decode cX9_keepNumbers 10 = .ok (.aload_n 1, 1) := by decide +kernel
theorem dX9_keepNumbers_11 : decode cX9_keepNumbers 11 = .ok (.iconst 4, 1) := by decide +kernel
theorem dX9_keepNumbers_12 : decode cX9_keepNumbers 12 = .ok (.aload_n 0, 1) := by decide +kernel
theorem dX9_keepNumbers_13 : decode cX9_keepNumbers 13 = .ok (.getfield 24, 3) := by decide +kernel
theorem dX9_keepNumbers_16 : decode cX9_keepNumbers 16 = .ok (.invokevirtual 293, 3) := by decide +kernel
theorem dX9_keepNumbers_19 : decode cX9_keepNumbers 19 = .ok (.iconst 0, 1) := by decide +kernel
theorem dX9_keepNumbers_20 : decode cX9_keepNumbers 20 = .ok (.istore_n 3, 1) := by decide +kernel
theorem dX9_keepNumbers_21 : decode cX9_keepNumbers 21 = .ok (.iload_n 3, 1) := by decide +kernel
theorem dX9_keepNumbers_22 : decode cX9_keepNumbers 22 = .ok (.aload_n 0, 1) := by decide +kernel
theorem dX9_keepNumbers_23 : decode cX9_keepNumbers 23 = .ok (.getfield 24, 3) := by decide +kernel
theorem dX9_keepNumbers_26 : decode cX9_keepNumbers 26 = .ok (.if_icmp .ge 25, 3) := by decide +kernel
theorem dX9_keepNumbers_29 : decode cX9_keepNumbers 29 = .ok (.aload_n 1, 1) := by decide +kernel
theorem dX9_keepNumbers_30 : decode cX9_keepNumbers 30 = .ok (.getfield 306, 3) := by decide +kernel
theorem dX9_keepNumbers_33 : decode cX9_keepNumbers 33 = .ok (.iload_n 3, 1) := by decide +kernel
theorem dX9_keepNumbers_34 : decode cX9_keepNumbers 34 = .ok (.aload_n 0, 1) := by decide +kernel
theorem dX9_keepNumbers_35 : decode cX9_keepNumbers 35 = .ok (.getfield 27, 3) := by decide +kernel
theorem dX9_keepNumbers_38 : decode cX9_keepNumbers 38 = .ok (.iload_n 2, 1) := by decide +kernel
theorem dX9_keepNumbers_39 : decode cX9_keepNumbers 39 = .ok (.iload_n 3, 1) := by decide +kernel
theorem dX9_keepNumbers_40 : decode cX9_keepNumbers 40 = .ok (.invokevirtual 195, 3) := by decide +kernel
theorem dX9_keepNumbers_43 : decode cX9_keepNumbers 43 = .ok (.i2l, 1) := by decide +kernel
theorem dX9_keepNumbers_44 : decode cX9_keepNumbers 44 = .ok (.lastore, 1) := by decide +kernel
theorem dX9_keepNumbers_45 : decode cX9_keepNumbers 45 = .ok (.iinc 3 1, 3) := by decide +kernel
theorem dX9_keepNumbers_48 : decode cX9_keepNumbers 48 = .ok (.goto (-27), 3) := by decide +kernel
theorem dX9_keepNumbers_51 : decode cX9_keepNumbers 51 = .ok (.iconst 0, 1) := by decide +kernel
theorem dX9_keepNumbers_52 : decode cX9_keepNumbers 52 = .ok (.ireturn, 1) := by decide +kernel
theorem dX9_refusalOfRule_0 : decode cX9_refusalOfRule 0 = .ok (.aload_n 0, 1) := by decide +kernel
theorem dX9_refusalOfRule_1 : decode cX9_refusalOfRule 1 = .ok (.ifnonnull 5, 3) := by decide +kernel
theorem dX9_refusalOfRule_4 : decode cX9_refusalOfRule 4 = .ok (.iconst (-1), 1) := by decide +kernel
theorem dX9_refusalOfRule_5 : decode cX9_refusalOfRule 5 = .ok (.ireturn, 1) := by decide +kernel
theorem dX9_refusalOfRule_6 : decode cX9_refusalOfRule 6 = .ok (.aload_n 0, 1) := by decide +kernel
theorem dX9_refusalOfRule_7 : decode cX9_refusalOfRule 7 = .ok (.getfield 310, 3) := by decide +kernel
theorem dX9_refusalOfRule_10 : decode cX9_refusalOfRule 10 = .ok (.ifCond .ne 6, 3) := by decide +kernel
theorem dX9_refusalOfRule_13 : decode cX9_refusalOfRule 13 = .ok (.bipush (-11), 2) := by decide +kernel
theorem dX9_refusalOfRule_15 : decode cX9_refusalOfRule 15 = .ok (.ireturn, 1) := by decide +kernel
theorem dX9_refusalOfRule_16 : decode cX9_refusalOfRule 16 = .ok (.aload_n 0, 1) := by decide +kernel
theorem dX9_refusalOfRule_17 : decode cX9_refusalOfRule 17 = .ok (.getfield 310, 3) := by decide +kernel
theorem dX9_refusalOfRule_20 : decode cX9_refusalOfRule 20 = .ok (.iconst 1, 1) := by decide +kernel
theorem dX9_refusalOfRule_21 : decode cX9_refusalOfRule 21 = .ok (.if_icmp .ne 7, 3) := by decide +kernel
theorem dX9_refusalOfRule_24 : decode cX9_refusalOfRule 24 = .ok (.iconst 0, 1) := by decide +kernel
theorem dX9_refusalOfRule_25 : decode cX9_refusalOfRule 25 = .ok (.goto 5, 3) := by decide +kernel
theorem dX9_refusalOfRule_28 : decode cX9_refusalOfRule 28 = .ok (.bipush (-12), 2) := by decide +kernel
theorem dX9_refusalOfRule_30 : decode cX9_refusalOfRule 30 = .ok (.ireturn, 1) := by decide +kernel
theorem dX9_numberOfFailure_0 : decode cX9_numberOfFailure 0 = .ok (.aload_n 0, 1) := by decide +kernel
theorem dX9_numberOfFailure_1 : decode cX9_numberOfFailure 1 = .ok (.ifnonnull 6, 3) := by decide +kernel
theorem dX9_numberOfFailure_4 : decode cX9_numberOfFailure 4 = .ok (.bipush (-15), 2) := by decide +kernel
theorem dX9_numberOfFailure_6 : decode cX9_numberOfFailure 6 = .ok (.ireturn, 1) := by decide +kernel
theorem dX9_numberOfFailure_7 : decode cX9_numberOfFailure 7 = .ok (.aload_n 0, 1) := by decide +kernel
theorem dX9_numberOfFailure_8 : decode cX9_numberOfFailure 8 = .ok (.invokevirtual 380, 3) := by decide +kernel
theorem dX9_numberOfFailure_11 : decode cX9_numberOfFailure 11 = .ok (.goto 9, 3) := by decide +kernel
theorem dX9_numberOfFailure_14 : decode cX9_numberOfFailure 14 = .ok (.astore_n 1, 1) := by decide +kernel
theorem dX9_numberOfFailure_15 : decode cX9_numberOfFailure 15 = .ok (.aload_n 0, 1) := by decide +kernel
theorem dX9_numberOfFailure_16 : decode cX9_numberOfFailure 16 = .ok (.getfield 383, 3) := by decide +kernel
theorem dX9_numberOfFailure_19 : decode cX9_numberOfFailure 19 = .ok (.ireturn, 1) := by decide +kernel
theorem dX9_numberOfFailure_20 : decode cX9_numberOfFailure 20 = .ok (.bipush (-15), 2) := by decide +kernel
theorem dX9_numberOfFailure_22 : decode cX9_numberOfFailure 22 = .ok (.ireturn, 1) := by decide +kernel
theorem dX10_init_0 : decode cX10_init 0 = .ok (.aload_n 0, 1) := by decide +kernel
theorem dX10_init_1 : decode cX10_init 1 = .ok (.invokespecial 1, 3) := by decide +kernel
theorem dX10_init_4 : decode cX10_init 4 = .ok (.aload_n 0, 1) := by decide +kernel
theorem dX10_init_5 : decode cX10_init 5 = .ok (.bipush 30, 2) := by decide +kernel
theorem dX10_init_7 : decode cX10_init 7 = .ok (.newarray .int, 2) := by decide +kernel
theorem dX10_init_9 : decode cX10_init 9 = .ok (.putfield 9, 3) := by decide +kernel
theorem dX10_init_12 : decode cX10_init 12 = .ok (.aload_n 0, 1) := by decide +kernel
theorem dX10_init_13 : decode cX10_init 13 = .ok (.iconst 5, 1) := by decide +kernel
theorem dX10_init_14 : decode cX10_init 14 = .ok (.newarray .int, 2) := by decide +kernel
theorem dX10_init_16 : decode cX10_init 16 = .ok (.putfield 13, 3) := by decide +kernel
theorem dX10_init_19 : decode cX10_init 19 = .ok (.aload_n 0, 1) := by decide +kernel
theorem dX10_init_20 : decode cX10_init 20 = .ok (.bipush 8, 2) := by decide +kernel
theorem dX10_init_22 : decode cX10_init 22 = .ok (.newarray .int, 2) := by decide +kernel
theorem dX10_init_24 : decode cX10_init 24 = .ok (.putfield 16, 3) := by decide +kernel
theorem dX10_init_27 : decode cX10_init 27 = .ok (.aload_n 0, 1) := by decide +kernel
theorem dX10_init_28 : decode cX10_init 28 = .ok (.sipush 10368, 3) := by decide +kernel
theorem dX10_init_31 : decode cX10_init 31 = .ok (.newarray .int, 2) := by decide +kernel
theorem dX10_init_33 : decode cX10_init 33 = .ok (.putfield 19, 3) := by decide +kernel
theorem dX10_init_36 : decode cX10_init 36 = .ok (.aload_n 0, 1) := by decide +kernel
theorem dX10_init_37 : decode cX10_init 37 = .ok (.ldc 22, 2) := by decide +kernel
theorem dX10_init_39 : decode cX10_init 39 = .ok (.newarray .int, 2) := by decide +kernel
theorem dX10_init_41 : decode cX10_init 41 = .ok (.putfield 23, 3) := by decide +kernel
theorem dX10_init_44 : decode cX10_init 44 = .ok (.aload_n 0, 1) := by decide +kernel
theorem dX10_init_45 : decode cX10_init 45 = .ok (.bipush 40, 2) := by decide +kernel
theorem dX10_init_47 : decode cX10_init 47 = .ok (.newarray .int, 2) := by decide +kernel
theorem dX10_init_49 : decode cX10_init 49 = .ok (.putfield 26, 3) := by decide +kernel
theorem dX10_init_52 : decode cX10_init 52 = .ok (.aload_n 0, 1) := by decide +kernel
theorem dX10_init_53 : decode cX10_init 53 = .ok (.bipush 32, 2) := by decide +kernel
theorem dX10_init_55 : decode cX10_init 55 = .ok (.newarray .int, 2) := by decide +kernel
theorem dX10_init_57 : decode cX10_init 57 = .ok (.putfield 29, 3) := by decide +kernel
theorem dX10_init_60 : decode cX10_init 60 = .ok (.aload_n 0, 1) := by decide +kernel
theorem dX10_init_61 : decode cX10_init 61 = .ok (.bipush 32, 2) := by decide +kernel
theorem dX10_init_63 : decode cX10_init 63 = .ok (.newarray .int, 2) := by decide +kernel
theorem dX10_init_65 : decode cX10_init 65 = .ok (.putfield 32, 3) := by decide +kernel
theorem dX10_init_68 : decode cX10_init 68 = .ok (.aload_n 0, 1) := by decide +kernel
theorem dX10_init_69 : decode cX10_init 69 = .ok (.sipush 1296, 3) := by decide +kernel
theorem dX10_init_72 : decode cX10_init 72 = .ok (.newarray .int, 2) := by decide +kernel
theorem dX10_init_74 : decode cX10_init 74 = .ok (.putfield 35, 3) := by decide +kernel
theorem dX10_init_77 : decode cX10_init 77 = .ok (.aload_n 0, 1) := by decide +kernel
theorem dX10_init_78 : decode cX10_init 78 = .ok (.sipush 5184, 3) := by decide +kernel
theorem dX10_init_81 : decode cX10_init 81 = .ok (.newarray .int, 2) := by decide +kernel
theorem dX10_init_83 : decode cX10_init 83 = .ok (.putfield 38, 3) := by decide +kernel
theorem dX10_init_86 : decode cX10_init 86 = .ok (.aload_n 0, 1) := by decide +kernel
theorem dX10_init_87 : decode cX10_init 87 = .ok (.iconst 5, 1) := by decide +kernel
theorem dX10_init_88 : decode cX10_init 88 = .ok (.newarray .boolean, 2) := by decide +kernel
theorem dX10_init_90 : decode cX10_init 90 = .ok (.putfield 41, 3) := by decide +kernel
theorem dX10_init_93 : decode cX10_init 93 = .ok (.aload_n 0, 1) := by decide +kernel
theorem dX10_init_94 : decode cX10_init 94 = .ok (.bipush 25, 2) := by decide +kernel
theorem dX10_init_96 : decode cX10_init 96 = .ok (.newarray .int, 2) := by decide +kernel
theorem dX10_init_98 : decode cX10_init 98 = .ok (.putfield 45, 3) := by decide +kernel
theorem dX10_init_101 : decode cX10_init 101 = .ok (.aload_n 0, 1) := by decide +kernel
theorem dX10_init_102 : decode cX10_init 102 = .ok (.iconst 5, 1) := by decide +kernel
theorem dX10_init_103 : decode cX10_init 103 = .ok (.newarray .int, 2) := by decide +kernel
theorem dX10_init_105 : decode cX10_init 105 = .ok (.putfield 48, 3) := by decide +kernel
theorem dX10_init_108 : decode cX10_init 108 = .ok (.aload_n 0, 1) := by decide +kernel
theorem dX10_init_109 : decode cX10_init 109 = .ok (.bipush 16, 2) := by decide +kernel
theorem dX10_init_111 : decode cX10_init 111 = .ok (.newarray .int, 2) := by decide +kernel
theorem dX10_init_113 : decode cX10_init 113 = .ok (.putfield 51, 3) := by decide +kernel
theorem dX10_init_116 : decode cX10_init 116 = .ok (.aload_n 0, 1) := by decide +kernel
theorem dX10_init_117 : decode cX10_init 117 = .ok (.iconst 4, 1) := by decide +kernel
theorem dX10_init_118 : decode cX10_init 118 = .ok (.newarray .int, 2) := by decide +kernel
theorem dX10_init_120 : decode cX10_init 120 = .ok (.putfield 54, 3) := by decide +kernel
theorem dX10_init_123 : decode cX10_init 123 = .ok (.aload_n 0, 1) := by decide +kernel
theorem dX10_init_124 : decode cX10_init 124 = .ok (.iconst 4, 1) := by decide +kernel
theorem dX10_init_125 : decode cX10_init 125 = .ok (.newarray .int, 2) := by decide +kernel
theorem dX10_init_127 : decode cX10_init 127 = .ok (.putfield 57, 3) := by decide +kernel
theorem dX10_init_130 : decode cX10_init 130 = .ok (.aload_n 0, 1) := by decide +kernel
theorem dX10_init_131 : decode cX10_init 131 = .ok (.iconst 4, 1) := by decide +kernel
theorem dX10_init_132 : decode cX10_init 132 = .ok (.newarray .int, 2) := by decide +kernel
theorem dX10_init_134 : decode cX10_init 134 = .ok (.putfield 60, 3) := by decide +kernel
theorem dX10_init_137 : decode cX10_init 137 = .ok (.aload_n 0, 1) := by decide +kernel
theorem dX10_init_138 : decode cX10_init 138 = .ok (.iconst 4, 1) := by decide +kernel
theorem dX10_init_139 : decode cX10_init 139 = .ok (.newarray .int, 2) := by decide +kernel
theorem dX10_init_141 : decode cX10_init 141 = .ok (.putfield 63, 3) := by decide +kernel
theorem dX10_init_144 : decode cX10_init 144 = .ok (.aload_n 0, 1) := by decide +kernel
theorem dX10_init_145 : decode cX10_init 145 = .ok (.iconst 4, 1) := by decide +kernel
theorem dX10_init_146 : decode cX10_init 146 = .ok (.newarray .int, 2) := by decide +kernel
theorem dX10_init_148 : decode cX10_init 148 = .ok (.putfield 66, 3) := by decide +kernel
theorem dX10_init_151 : decode cX10_init 151 = .ok (.aload_n 0, 1) := by decide +kernel
theorem dX10_init_152 : decode cX10_init 152 = .ok (.bipush 8, 2) := by decide +kernel
theorem dX10_init_154 : decode cX10_init 154 = .ok (.newarray .int, 2) := by decide +kernel
theorem dX10_init_156 : decode cX10_init 156 = .ok (.putfield 69, 3) := by decide +kernel
theorem dX10_init_159 : decode cX10_init 159 = .ok (.aload_n 0, 1) := by decide +kernel
theorem dX10_init_160 : decode cX10_init 160 = .ok (.bipush 8, 2) := by decide +kernel
theorem dX10_init_162 : decode cX10_init 162 = .ok (.newarray .int, 2) := by decide +kernel
theorem dX10_init_164 : decode cX10_init 164 = .ok (.putfield 72, 3) := by decide +kernel
theorem dX10_init_167 : decode cX10_init 167 = .ok (.aload_n 0, 1) := by decide +kernel
theorem dX10_init_168 : decode cX10_init 168 = .ok (.bipush 8, 2) := by decide +kernel
theorem dX10_init_170 : decode cX10_init 170 = .ok (.newarray .int, 2) := by decide +kernel
theorem dX10_init_172 : decode cX10_init 172 = .ok (.putfield 75, 3) := by decide +kernel
theorem dX10_init_175 : decode cX10_init 175 = .ok (.aload_n 0, 1) := by decide +kernel
theorem dX10_init_176 : decode cX10_init 176 = .ok (.bipush 8, 2) := by decide +kernel
theorem dX10_init_178 : decode cX10_init 178 = .ok (.newarray .int, 2) := by decide +kernel
theorem dX10_init_180 : decode cX10_init 180 = .ok (.putfield 78, 3) := by decide +kernel
theorem dX10_init_183 : decode cX10_init 183 = .ok (.aload_n 0, 1) := by decide +kernel
theorem dX10_init_184 : decode cX10_init 184 = .ok (.bipush 8, 2) := by decide +kernel
theorem dX10_init_186 : decode cX10_init 186 = .ok (.newarray .int, 2) := by decide +kernel
theorem dX10_init_188 : decode cX10_init 188 = .ok (.putfield 81, 3) := by decide +kernel
theorem dX10_init_191 : decode cX10_init 191 = .ok (.aload_n 0, 1) := by decide +kernel
theorem dX10_init_192 : decode cX10_init 192 = .ok (.sipush 480, 3) := by decide +kernel
theorem dX10_init_195 : decode cX10_init 195 = .ok (.newarray .long, 2) := by decide +kernel
theorem dX10_init_197 : decode cX10_init 197 = .ok (.putfield 84, 3) := by decide +kernel
theorem dX10_init_200 : decode cX10_init 200 = .ok (.aload_n 0, 1) := by decide +kernel
theorem dX10_init_201 : decode cX10_init 201 = .ok (.bipush 60, 2) := by decide +kernel
theorem dX10_init_203 : decode cX10_init 203 = .ok (.newarray .long, 2) := by decide +kernel
theorem dX10_init_205 : decode cX10_init 205 = .ok (.putfield 88, 3) := by decide +kernel
theorem dX10_init_208 : decode cX10_init 208 = .ok (.aload_n 0, 1) := by decide +kernel
theorem dX10_init_209 : decode cX10_init 209 = .ok (.iconst 2, 1) := by decide +kernel
theorem dX10_init_210 : decode cX10_init 210 = .ok (.iload_n 1, 1) := by decide +kernel
theorem dX10_init_211 : decode cX10_init 211 = .ok (.iconst 3, 1) := by decide +kernel
theorem dX10_init_212 : decode cX10_init 212 = .ok (.invokestatic 91, 3) := by decide +kernel
theorem dX10_init_215 : decode cX10_init 215 = .ok (.iadd, 1) := by decide +kernel
theorem dX10_init_216 : decode cX10_init 216 = .ok (.putfield 97, 3) := by decide +kernel
theorem dX10_init_219 : decode cX10_init 219 = .ok (.aload_n 0, 1) := by decide +kernel
theorem dX10_init_220 : decode cX10_init 220 = .ok (.iconst 2, 1) := by decide +kernel
theorem dX10_init_221 : decode cX10_init 221 = .ok (.iload_n 2, 1) := by decide +kernel
theorem dX10_init_222 : decode cX10_init 222 = .ok (.iconst 4, 1) := by decide +kernel
theorem dX10_init_223 : decode cX10_init 223 = .ok (.invokestatic 91, 3) := by decide +kernel
theorem dX10_init_226 : decode cX10_init 226 = .ok (.iadd, 1) := by decide +kernel
theorem dX10_init_227 : decode cX10_init 227 = .ok (.putfield 101, 3) := by decide +kernel
theorem dX10_init_230 : decode cX10_init 230 = .ok (.iconst 0, 1) := by decide +kernel
theorem dX10_init_231 : decode cX10_init 231 = .ok (.istore_n 3, 1) := by decide +kernel
theorem dX10_init_232 : decode cX10_init 232 = .ok (.iload_n 3, 1) := by decide +kernel
theorem dX10_init_233 : decode cX10_init 233 = .ok (.aload_n 0, 1) := by decide +kernel
theorem dX10_init_234 : decode cX10_init 234 = .ok (.getfield 97, 3) := by decide +kernel
theorem dX10_init_237 : decode cX10_init 237 = .ok (.if_icmp .ge 40, 3) := by decide +kernel
theorem dX10_init_240 : decode cX10_init 240 = .ok (.iconst 0, 1) := by decide +kernel
theorem dX10_init_241 : decode cX10_init 241 = .ok (.istore 4, 2) := by decide +kernel
theorem dX10_init_243 : decode cX10_init 243 = .ok (.iload 4, 2) := by decide +kernel
theorem dX10_init_245 : decode cX10_init 245 = .ok (.aload_n 0, 1) := by decide +kernel
theorem dX10_init_246 : decode cX10_init 246 = .ok (.getfield 97, 3) := by decide +kernel
theorem dX10_init_249 : decode cX10_init 249 = .ok (.if_icmp .ge 22, 3) := by decide +kernel
theorem dX10_init_252 : decode cX10_init 252 = .ok (.aload_n 0, 1) := by decide +kernel
theorem dX10_init_253 : decode cX10_init 253 = .ok (.getfield 51, 3) := by decide +kernel
theorem dX10_init_256 : decode cX10_init 256 = .ok (.iconst 4, 1) := by decide +kernel
theorem dX10_init_257 : decode cX10_init 257 = .ok (.iload_n 3, 1) := by decide +kernel
theorem dX10_init_258 : decode cX10_init 258 = .ok (.imul, 1) := by decide +kernel
theorem dX10_init_259 : decode cX10_init 259 = .ok (.iload 4, 2) := by decide +kernel
theorem dX10_init_261 : decode cX10_init 261 = .ok (.iadd, 1) := by decide +kernel
theorem dX10_init_262 : decode cX10_init 262 = .ok (.iload 4, 2) := by decide +kernel
theorem dX10_init_264 : decode cX10_init 264 = .ok (.iastore, 1) := by decide +kernel
theorem dX10_init_265 : decode cX10_init 265 = .ok (.iinc 4 1, 3) := by decide +kernel
theorem dX10_init_268 : decode cX10_init 268 = .ok (.goto (-25), 3) := by decide +kernel
theorem dX10_init_271 : decode cX10_init 271 = .ok (.iinc 3 1, 3) := by decide +kernel
theorem dX10_init_274 : decode cX10_init 274 = .ok (.goto (-42), 3) := by decide +kernel
theorem dX10_init_277 : decode cX10_init 277 = .ok (.aload_n 0, 1) := by decide +kernel
theorem dX10_init_278 : decode cX10_init 278 = .ok (.invokevirtual 104, 3) := by decide +kernel
theorem dX10_init_281 : decode cX10_init 281 = .ok (.return_, 1) := by decide +kernel
theorem dX10_thrown_0 : decode cX10_thrown 0 = .ok (.aload_n 0, 1) := by decide +kernel
theorem dX10_thrown_1 : decode cX10_thrown 1 = .ok (.getfield 107, 3) := by decide +kernel
theorem dX10_thrown_4 : decode cX10_thrown 4 = .ok (.ireturn, 1) := by decide +kernel
theorem dX10_raises_0 : decode cX10_raises 0 = .ok (.aload_n 0, 1) := by decide +kernel
theorem dX10_raises_1 : decode cX10_raises 1 = .ok (.iload_n 1, 1) := by decide +kernel
theorem dX10_raises_2 : decode cX10_raises 2 = .ok (.putfield 107, 3) := by decide +kernel
theorem dX10_raises_5 : decode cX10_raises 5 = .ok (.iconst 0, 1) := by decide +kernel
theorem dX10_raises_6 : decode cX10_raises 6 = .ok (.ireturn, 1) := by decide +kernel
theorem dX10_isIn_0 : decode cX10_isIn 0 = .ok (.iload_n 0, 1) := by decide +kernel
theorem dX10_isIn_1 : decode cX10_isIn 1 = .ok (.ifCond .lt 12, 3) := by decide +kernel
theorem dX10_isIn_4 : decode cX10_isIn 4 = .ok (.iload_n 0, 1) := by decide +kernel
theorem dX10_isIn_5 : decode cX10_isIn 5 = .ok (.iload_n 1, 1) := by decide +kernel
theorem dX10_isIn_6 : decode cX10_isIn 6 = .ok (.if_icmp .ge 7, 3) := by decide +kernel
theorem dX10_isIn_9 : decode cX10_isIn 9 = .ok (.iconst 1, 1) := by decide +kernel
theorem dX10_isIn_10 : decode cX10_isIn 10 = .ok (.goto 4, 3) := by decide +kernel
theorem dX10_isIn_13 : decode cX10_isIn 13 = .ok (.iconst 0, 1) := by decide +kernel
theorem dX10_isIn_14 : decode cX10_isIn 14 = .ok (.ireturn, 1) := by decide +kernel
theorem dX10_counts_0 : decode cX10_counts 0 = .ok (.aload_n 0, 1) := by decide +kernel
theorem dX10_counts_1 : decode cX10_counts 1 = .ok (.getfield 13, 3) := by decide +kernel
theorem dX10_counts_4 : decode cX10_counts 4 = .ok (.iconst 0, 1) := by decide +kernel
theorem dX10_counts_5 : decode cX10_counts 5 = .ok (.iconst 1, 1) := by decide +kernel
theorem dX10_counts_6 : decode cX10_counts 6 = .ok (.iastore, 1) := by decide +kernel
theorem dX10_counts_7 : decode cX10_counts 7 = .ok (.iconst 1, 1) := by decide +kernel
theorem dX10_counts_8 : decode cX10_counts 8 = .ok (.istore_n 1, 1) := by decide +kernel
theorem dX10_counts_9 : decode cX10_counts 9 = .ok (.iload_n 1, 1) := by decide +kernel
theorem dX10_counts_10 : decode cX10_counts 10 = .ok (.aload_n 0, 1) := by decide +kernel
theorem dX10_counts_11 : decode cX10_counts 11 = .ok (.getfield 97, 3) := by decide +kernel
theorem dX10_counts_14 : decode cX10_counts 14 = .ok (.if_icmp .gt 28, 3) := by decide +kernel
theorem dX10_counts_17 : decode cX10_counts 17 = .ok (.aload_n 0, 1) := by decide +kernel
theorem dX10_counts_18 : decode cX10_counts 18 = .ok (.getfield 13, 3) := by decide +kernel
theorem dX10_counts_21 : decode cX10_counts 21 = .ok (.iload_n 1, 1) := by decide +kernel
theorem dX10_counts_22 : decode cX10_counts 22 = .ok (.aload_n 0, 1) := by decide +kernel
theorem dX10_counts_23 : decode cX10_counts 23 = .ok (.getfield 13, 3) := by decide +kernel
theorem dX10_counts_26 : decode cX10_counts 26 = .ok (.iload_n 1, 1) := by decide +kernel
theorem dX10_counts_27 : decode cX10_counts 27 = .ok (.iconst 1, 1) := by decide +kernel
theorem dX10_counts_28 : decode cX10_counts 28 = .ok (.isub, 1) := by decide +kernel
theorem dX10_counts_29 : decode cX10_counts 29 = .ok (.iaload, 1) := by decide +kernel
theorem dX10_counts_30 : decode cX10_counts 30 = .ok (.aload_n 0, 1) := by decide +kernel
theorem dX10_counts_31 : decode cX10_counts 31 = .ok (.getfield 110, 3) := by decide +kernel
theorem dX10_counts_34 : decode cX10_counts 34 = .ok (.imul, 1) := by decide +kernel
theorem dX10_counts_35 : decode cX10_counts 35 = .ok (.iastore, 1) := by decide +kernel
theorem dX10_counts_36 : decode cX10_counts 36 = .ok (.iinc 1 1, 3) := by decide +kernel
theorem dX10_counts_39 : decode cX10_counts 39 = .ok (.goto (-30), 3) := by decide +kernel
theorem dX10_counts_42 : decode cX10_counts 42 = .ok (.aload_n 0, 1) := by decide +kernel
theorem dX10_counts_43 : decode cX10_counts 43 = .ok (.aload_n 0, 1) := by decide +kernel
theorem dX10_counts_44 : decode cX10_counts 44 = .ok (.getfield 110, 3) := by decide +kernel
theorem dX10_counts_47 : decode cX10_counts 47 = .ok (.ifCond .ne 7, 3) := by decide +kernel
theorem dX10_counts_50 : decode cX10_counts 50 = .ok (.iconst 0, 1) := by decide +kernel
theorem dX10_counts_51 : decode cX10_counts 51 = .ok (.goto 12, 3) := by decide +kernel
theorem dX10_counts_54 : decode cX10_counts 54 = .ok (.aload_n 0, 1) := by decide +kernel
theorem dX10_counts_55 : decode cX10_counts 55 = .ok (.getfield 13, 3) := by decide +kernel
theorem dX10_counts_58 : decode cX10_counts 58 = .ok (.aload_n 0, 1) := by decide +kernel
theorem dX10_counts_59 : decode cX10_counts 59 = .ok (.getfield 97, 3) := by decide +kernel
theorem dX10_counts_62 : decode cX10_counts 62 = .ok (.iaload, 1) := by decide +kernel
theorem dX10_counts_63 : decode cX10_counts 63 = .ok (.putfield 113, 3) := by decide +kernel
theorem dX10_counts_66 : decode cX10_counts 66 = .ok (.return_, 1) := by decide +kernel
theorem dX10_wish_0 : decode cX10_wish 0 = .ok (.aload_n 0, 1) := by decide +kernel
theorem dX10_wish_1 : decode cX10_wish 1 = .ok (.getfield 110, 3) := by decide +kernel
theorem dX10_wish_4 : decode cX10_wish 4 = .ok (.bipush 6, 2) := by decide +kernel
theorem dX10_wish_6 : decode cX10_wish 6 = .ok (.if_icmp .ne 6, 3) := by decide +kernel
theorem dX10_wish_9 : decode cX10_wish 9 = .ok (.bipush (-2), 2) := by decide +kernel
theorem dX10_wish_11 : decode cX10_wish 11 = .ok (.ireturn, 1) := by decide +kernel
theorem dX10_wish_12 : decode cX10_wish 12 = .ok (.aload_n 0, 1) := by decide +kernel
theorem dX10_wish_13 : decode cX10_wish 13 = .ok (.getfield 116, 3) := by decide +kernel
theorem dX10_wish_16 : decode cX10_wish 16 = .ok (.ifCond .le 6, 3) := by decide +kernel
theorem dX10_wish_19 : decode cX10_wish 19 = .ok (.bipush (-3), 2) := by decide +kernel
theorem dX10_wish_21 : decode cX10_wish 21 = .ok (.ireturn, 1) := by decide +kernel
theorem dX10_wish_22 : decode cX10_wish 22 = .ok (.aload_n 0, 1) := by decide +kernel
theorem dX10_wish_23 : decode cX10_wish 23 = .ok (.dup, 1) := by decide +kernel
theorem dX10_wish_24 : decode cX10_wish 24 = .ok (.getfield 110, 3) := by decide +kernel
theorem dX10_wish_27 : decode cX10_wish 27 = .ok (.iconst 1, 1) := by decide +kernel
theorem dX10_wish_28 : decode cX10_wish 28 = .ok (.iadd, 1) := by decide +kernel
theorem dX10_wish_29 : decode cX10_wish 29 = .ok (.putfield 110, 3) := by decide +kernel
theorem dX10_wish_32 : decode cX10_wish 32 = .ok (.aload_n 0, 1) := by decide +kernel
theorem dX10_wish_33 : decode cX10_wish 33 = .ok (.invokevirtual 104, 3) := by decide +kernel
theorem dX10_wish_36 : decode cX10_wish 36 = .ok (.aload_n 0, 1) := by decide +kernel
theorem dX10_wish_37 : decode cX10_wish 37 = .ok (.getfield 110, 3) := by decide +kernel
theorem dX10_wish_40 : decode cX10_wish 40 = .ok (.iconst 1, 1) := by decide +kernel
theorem dX10_wish_41 : decode cX10_wish 41 = .ok (.isub, 1) := by decide +kernel
theorem dX10_wish_42 : decode cX10_wish 42 = .ok (.ireturn, 1) := by decide +kernel
theorem dX10_worth_0 : decode cX10_worth 0 = .ok (.iload_n 1, 1) := by decide +kernel
theorem dX10_worth_1 : decode cX10_worth 1 = .ok (.aload_n 0, 1) := by decide +kernel
theorem dX10_worth_2 : decode cX10_worth 2 = .ok (.getfield 110, 3) := by decide +kernel
theorem dX10_worth_5 : decode cX10_worth 5 = .ok (.invokestatic 119, 3) := by decide +kernel
theorem dX10_worth_8 : decode cX10_worth 8 = .ok (.ifCond .eq 26, 3) := by decide +kernel
theorem dX10_worth_11 : decode cX10_worth 11 = .ok (.iload_n 2, 1) := by decide +kernel
theorem dX10_worth_12 : decode cX10_worth 12 = .ok (.aload_n 0, 1) := by decide +kernel
theorem dX10_worth_13 : decode cX10_worth 13 = .ok (.getfield 101, 3) := by decide +kernel
theorem dX10_worth_16 : decode cX10_worth 16 = .ok (.invokestatic 119, 3) := by decide +kernel
theorem dX10_worth_19 : decode cX10_worth 19 = .ok (.ifCond .eq 15, 3) := by decide +kernel
theorem dX10_worth_22 : decode cX10_worth 22 = .ok (.iload_n 3, 1) := by decide +kernel
theorem dX10_worth_23 : decode cX10_worth 23 = .ok (.bipush (-99), 2) := by decide +kernel
theorem dX10_worth_25 : decode cX10_worth 25 = .ok (.if_icmp .lt 9, 3) := by decide +kernel
theorem dX10_worth_28 : decode cX10_worth 28 = .ok (.iload_n 3, 1) := by decide +kernel
theorem dX10_worth_29 : decode cX10_worth 29 = .ok (.bipush 99, 2) := by decide +kernel
theorem dX10_worth_31 : decode cX10_worth 31 = .ok (.if_icmp .le 5, 3) := by decide +kernel
theorem dX10_worth_34 : decode cX10_worth 34 = .ok (.iconst (-1), 1) := by decide +kernel
theorem dX10_worth_35 : decode cX10_worth 35 = .ok (.ireturn, 1) := by decide +kernel
theorem dX10_worth_36 : decode cX10_worth 36 = .ok (.aload_n 0, 1) := by decide +kernel
theorem dX10_worth_37 : decode cX10_worth 37 = .ok (.getfield 116, 3) := by decide +kernel
theorem dX10_worth_40 : decode cX10_worth 40 = .ok (.ifCond .le 6, 3) := by decide +kernel
theorem dX10_worth_43 : decode cX10_worth 43 = .ok (.bipush (-3), 2) := by decide +kernel
theorem dX10_worth_45 : decode cX10_worth 45 = .ok (.ireturn, 1) := by decide +kernel
theorem dX10_worth_46 : decode cX10_worth 46 = .ok (.aload_n 0, 1) := by decide +kernel
theorem dX10_worth_47 : decode cX10_worth 47 = .ok (.getfield 9, 3) := by decide +kernel
theorem dX10_worth_50 : decode cX10_worth 50 = .ok (.iconst 5, 1) := by decide +kernel
theorem dX10_worth_51 : decode cX10_worth 51 = .ok (.iload_n 1, 1) := by decide +kernel
theorem dX10_worth_52 : decode cX10_worth 52 = .ok (.imul, 1) := by decide +kernel
theorem dX10_worth_53 : decode cX10_worth 53 = .ok (.iload_n 2, 1) := by decide +kernel
theorem dX10_worth_54 : decode cX10_worth 54 = .ok (.iadd, 1) := by decide +kernel
theorem dX10_worth_55 : decode cX10_worth 55 = .ok (.iaload, 1) := by decide +kernel
theorem dX10_worth_56 : decode cX10_worth 56 = .ok (.istore 4, 2) := by decide +kernel
theorem dX10_worth_58 : decode cX10_worth 58 = .ok (.aload_n 0, 1) := by decide +kernel
theorem dX10_worth_59 : decode cX10_worth 59 = .ok (.getfield 9, 3) := by decide +kernel
theorem dX10_worth_62 : decode cX10_worth 62 = .ok (.iconst 5, 1) := by decide +kernel
theorem dX10_worth_63 : decode cX10_worth 63 = .ok (.iload_n 1, 1) := by decide +kernel
theorem dX10_worth_64 : decode cX10_worth 64 = .ok (.imul, 1) := by decide +kernel
theorem dX10_worth_65 : decode cX10_worth 65 = .ok (.iload_n 2, 1) := by decide +kernel
theorem dX10_worth_66 : decode cX10_worth 66 = .ok (.iadd, 1) := by decide +kernel
theorem dX10_worth_67 : decode cX10_worth 67 = .ok (.iload_n 3, 1) := by decide +kernel
theorem dX10_worth_68 : decode cX10_worth 68 = .ok (.iastore, 1) := by decide +kernel
theorem dX10_worth_69 : decode cX10_worth 69 = .ok (.iload 4, 2) := by decide +kernel
theorem dX10_worth_71 : decode cX10_worth 71 = .ok (.iload_n 3, 1) := by decide +kernel
theorem dX10_worth_72 : decode cX10_worth 72 = .ok (.if_icmp .ne 7, 3) := by decide +kernel
theorem dX10_worth_75 : decode cX10_worth 75 = .ok (.iconst 0, 1) := by decide +kernel
theorem dX10_worth_76 : decode cX10_worth 76 = .ok (.goto 4, 3) := by decide +kernel
theorem dX10_worth_79 : decode cX10_worth 79 = .ok (.iconst 1, 1) := by decide +kernel
theorem dX10_worth_80 : decode cX10_worth 80 = .ok (.ireturn, 1) := by decide +kernel
theorem dX10_rule_0 : decode cX10_rule 0 = .ok (.iload_n 1, 1) := by decide +kernel
theorem dX10_rule_1 : decode cX10_rule 1 = .ok (.iconst 4, 1) := by decide +kernel
theorem dX10_rule_2 : decode cX10_rule 2 = .ok (.invokestatic 119, 3) := by decide +kernel
theorem dX10_rule_5 : decode cX10_rule 5 = .ok (.ifCond .eq 10, 3) := by decide +kernel
theorem dX10_rule_8 : decode cX10_rule 8 = .ok (.aload_n 0, 1) := by decide +kernel
theorem dX10_rule_9 : decode cX10_rule 9 = .ok (.getfield 110, 3) := by decide +kernel
theorem dX10_rule_12 : decode cX10_rule 12 = .ok (.ifCond .ne 5, 3) := by decide +kernel
theorem dX10_rule_15 : decode cX10_rule 15 = .ok (.iconst (-1), 1) := by decide +kernel
theorem dX10_rule_16 : decode cX10_rule 16 = .ok (.ireturn, 1) := by decide +kernel
theorem dX10_rule_17 : decode cX10_rule 17 = .ok (.aload_n 0, 1) := by decide +kernel
theorem dX10_rule_18 : decode cX10_rule 18 = .ok (.getfield 116, 3) := by decide +kernel
theorem dX10_rule_21 : decode cX10_rule 21 = .ok (.bipush 8, 2) := by decide +kernel
theorem dX10_rule_23 : decode cX10_rule 23 = .ok (.if_icmp .ne 6, 3) := by decide +kernel
theorem dX10_rule_26 : decode cX10_rule 26 = .ok (.bipush (-2), 2) := by decide +kernel
theorem dX10_rule_28 : decode cX10_rule 28 = .ok (.ireturn, 1) := by decide +kernel
theorem dX10_rule_29 : decode cX10_rule 29 = .ok (.aload_n 0, 1) := by decide +kernel
theorem dX10_rule_30 : decode cX10_rule 30 = .ok (.getfield 16, 3) := by decide +kernel
theorem dX10_rule_33 : decode cX10_rule 33 = .ok (.aload_n 0, 1) := by decide +kernel
theorem dX10_rule_34 : decode cX10_rule 34 = .ok (.getfield 116, 3) := by decide +kernel
theorem dX10_rule_37 : decode cX10_rule 37 = .ok (.iload_n 1, 1) := by decide +kernel
theorem dX10_rule_38 : decode cX10_rule 38 = .ok (.iastore, 1) := by decide +kernel
theorem dX10_rule_39 : decode cX10_rule 39 = .ok (.iconst 0, 1) := by decide +kernel
theorem dX10_rule_40 : decode cX10_rule 40 = .ok (.istore_n 2, 1) := by decide +kernel
theorem dX10_rule_41 : decode cX10_rule 41 = .ok (.iload_n 2, 1) := by decide +kernel
theorem dX10_rule_42 : decode cX10_rule 42 = .ok (.aload_n 0, 1) := by decide +kernel
theorem dX10_rule_43 : decode cX10_rule 43 = .ok (.getfield 113, 3) := by decide +kernel
theorem dX10_rule_46 : decode cX10_rule 46 = .ok (.if_icmp .ge 25, 3) := by decide +kernel
theorem dX10_rule_49 : decode cX10_rule 49 = .ok (.aload_n 0, 1) := by decide +kernel
theorem dX10_rule_50 : decode cX10_rule 50 = .ok (.getfield 19, 3) := by decide +kernel
theorem dX10_rule_53 : decode cX10_rule 53 = .ok (.sipush 1296, 3) := by decide +kernel
theorem dX10_rule_56 : decode cX10_rule 56 = .ok (.aload_n 0, 1) := by decide +kernel
theorem dX10_rule_57 : decode cX10_rule 57 = .ok (.getfield 116, 3) := by decide +kernel
theorem dX10_rule_60 : decode cX10_rule 60 = .ok (.imul, 1) := by decide +kernel
theorem dX10_rule_61 : decode cX10_rule 61 = .ok (.iload_n 2, 1) := by decide +kernel
theorem dX10_rule_62 : decode cX10_rule 62 = .ok (.iadd, 1) := by decide +kernel
theorem dX10_rule_63 : decode cX10_rule 63 = .ok (.iconst 0, 1) := by decide +kernel
theorem dX10_rule_64 : decode cX10_rule 64 = .ok (.iastore, 1) := by decide +kernel
theorem dX10_rule_65 : decode cX10_rule 65 = .ok (.iinc 2 1, 3) := by decide +kernel
theorem dX10_rule_68 : decode cX10_rule 68 = .ok (.goto (-27), 3) := by decide +kernel
theorem dX10_rule_71 : decode cX10_rule 71 = .ok (.iconst 0, 1) := by decide +kernel
theorem dX10_rule_72 : decode cX10_rule 72 = .ok (.istore_n 2, 1) := by decide +kernel
theorem dX10_rule_73 : decode cX10_rule 73 = .ok (.iload_n 2, 1) := by decide +kernel
theorem dX10_rule_74 : decode cX10_rule 74 = .ok (.iconst 4, 1) := by decide +kernel
theorem dX10_rule_75 : decode cX10_rule 75 = .ok (.aload_n 0, 1) := by decide +kernel
theorem dX10_rule_76 : decode cX10_rule 76 = .ok (.getfield 113, 3) := by decide +kernel
theorem dX10_rule_79 : decode cX10_rule 79 = .ok (.imul, 1) := by decide +kernel
theorem dX10_rule_80 : decode cX10_rule 80 = .ok (.if_icmp .ge 25, 3) := by decide +kernel
theorem dX10_rule_83 : decode cX10_rule 83 = .ok (.aload_n 0, 1) := by decide +kernel
theorem dX10_rule_84 : decode cX10_rule 84 = .ok (.getfield 23, 3) := by decide +kernel
theorem dX10_rule_87 : decode cX10_rule 87 = .ok (.sipush 5184, 3) := by decide +kernel
theorem dX10_rule_90 : decode cX10_rule 90 = .ok (.aload_n 0, 1) := by decide +kernel
theorem dX10_rule_91 : decode cX10_rule 91 = .ok (.getfield 116, 3) := by decide +kernel
theorem dX10_rule_94 : decode cX10_rule 94 = .ok (.imul, 1) := by decide +kernel
theorem dX10_rule_95 : decode cX10_rule 95 = .ok (.iload_n 2, 1) := by decide +kernel
theorem dX10_rule_96 : decode cX10_rule 96 = .ok (.iadd, 1) := by decide +kernel
theorem dX10_rule_97 : decode cX10_rule 97 = .ok (.iconst 0, 1) := by decide +kernel
theorem dX10_rule_98 : decode cX10_rule 98 = .ok (.iastore, 1) := by decide +kernel
theorem dX10_rule_99 : decode cX10_rule 99 = .ok (.iinc 2 1, 3) := by decide +kernel
theorem dX10_rule_102 : decode cX10_rule 102 = .ok (.goto (-29), 3) := by decide +kernel
theorem dX10_rule_105 : decode cX10_rule 105 = .ok (.iconst 0, 1) := by decide +kernel
theorem dX10_rule_106 : decode cX10_rule 106 = .ok (.istore_n 2, 1) := by decide +kernel
theorem dX10_rule_107 : decode cX10_rule 107 = .ok (.iload_n 2, 1) := by decide +kernel
theorem dX10_rule_108 : decode cX10_rule 108 = .ok (.aload_n 0, 1) := by decide +kernel
theorem dX10_rule_109 : decode cX10_rule 109 = .ok (.getfield 101, 3) := by decide +kernel
theorem dX10_rule_112 : decode cX10_rule 112 = .ok (.if_icmp .ge 23, 3) := by decide +kernel
theorem dX10_rule_115 : decode cX10_rule 115 = .ok (.aload_n 0, 1) := by decide +kernel
theorem dX10_rule_116 : decode cX10_rule 116 = .ok (.getfield 26, 3) := by decide +kernel
theorem dX10_rule_119 : decode cX10_rule 119 = .ok (.iconst 5, 1) := by decide +kernel
theorem dX10_rule_120 : decode cX10_rule 120 = .ok (.aload_n 0, 1) := by decide +kernel
theorem dX10_rule_121 : decode cX10_rule 121 = .ok (.getfield 116, 3) := by decide +kernel
theorem dX10_rule_124 : decode cX10_rule 124 = .ok (.imul, 1) := by decide +kernel
theorem dX10_rule_125 : decode cX10_rule 125 = .ok (.iload_n 2, 1) := by decide +kernel
theorem dX10_rule_126 : decode cX10_rule 126 = .ok (.iadd, 1) := by decide +kernel
theorem dX10_rule_127 : decode cX10_rule 127 = .ok (.iconst 0, 1) := by decide +kernel
theorem dX10_rule_128 : decode cX10_rule 128 = .ok (.iastore, 1) := by decide +kernel
theorem dX10_rule_129 : decode cX10_rule 129 = .ok (.iinc 2 1, 3) := by decide +kernel
theorem dX10_rule_132 : decode cX10_rule 132 = .ok (.goto (-25), 3) := by decide +kernel
theorem dX10_rule_135 : decode cX10_rule 135 = .ok (.iconst 0, 1) := by decide +kernel
theorem dX10_rule_136 : decode cX10_rule 136 = .ok (.istore_n 2, 1) := by decide +kernel
theorem dX10_rule_137 : decode cX10_rule 137 = .ok (.iload_n 2, 1) := by decide +kernel
theorem dX10_rule_138 : decode cX10_rule 138 = .ok (.aload_n 0, 1) := by decide +kernel
theorem dX10_rule_139 : decode cX10_rule 139 = .ok (.getfield 97, 3) := by decide +kernel
theorem dX10_rule_142 : decode cX10_rule 142 = .ok (.if_icmp .ge 23, 3) := by decide +kernel
theorem dX10_rule_145 : decode cX10_rule 145 = .ok (.aload_n 0, 1) := by decide +kernel
theorem dX10_rule_146 : decode cX10_rule 146 = .ok (.getfield 29, 3) := by decide +kernel
theorem dX10_rule_149 : decode cX10_rule 149 = .ok (.iconst 4, 1) := by decide +kernel
theorem dX10_rule_150 : decode cX10_rule 150 = .ok (.aload_n 0, 1) := by decide +kernel
theorem dX10_rule_151 : decode cX10_rule 151 = .ok (.getfield 116, 3) := by decide +kernel
theorem dX10_rule_154 : decode cX10_rule 154 = .ok (.imul, 1) := by decide +kernel
theorem dX10_rule_155 : decode cX10_rule 155 = .ok (.iload_n 2, 1) := by decide +kernel
theorem dX10_rule_156 : decode cX10_rule 156 = .ok (.iadd, 1) := by decide +kernel
theorem dX10_rule_157 : decode cX10_rule 157 = .ok (.iconst 1, 1) := by decide +kernel
theorem dX10_rule_158 : decode cX10_rule 158 = .ok (.iastore, 1) := by decide +kernel
theorem dX10_rule_159 : decode cX10_rule 159 = .ok (.iinc 2 1, 3) := by decide +kernel
theorem dX10_rule_162 : decode cX10_rule 162 = .ok (.goto (-25), 3) := by decide +kernel
theorem dX10_rule_165 : decode cX10_rule 165 = .ok (.iconst 0, 1) := by decide +kernel
theorem dX10_rule_166 : decode cX10_rule 166 = .ok (.istore_n 2, 1) := by decide +kernel
theorem dX10_rule_167 : decode cX10_rule 167 = .ok (.iload_n 2, 1) := by decide +kernel
theorem dX10_rule_168 : decode cX10_rule 168 = .ok (.aload_n 0, 1) := by decide +kernel
theorem dX10_rule_169 : decode cX10_rule 169 = .ok (.getfield 97, 3) := by decide +kernel
theorem dX10_rule_172 : decode cX10_rule 172 = .ok (.iconst 1, 1) := by decide +kernel
theorem dX10_rule_173 : decode cX10_rule 173 = .ok (.isub, 1) := by decide +kernel
theorem dX10_rule_174 : decode cX10_rule 174 = .ok (.if_icmp .ge 23, 3) := by decide +kernel
theorem dX10_rule_177 : decode cX10_rule 177 = .ok (.aload_n 0, 1) := by decide +kernel
theorem dX10_rule_178 : decode cX10_rule 178 = .ok (.getfield 32, 3) := by decide +kernel
theorem dX10_rule_181 : decode cX10_rule 181 = .ok (.iconst 4, 1) := by decide +kernel
theorem dX10_rule_182 : decode cX10_rule 182 = .ok (.aload_n 0, 1) := by decide +kernel
theorem dX10_rule_183 : decode cX10_rule 183 = .ok (.getfield 116, 3) := by decide +kernel
theorem dX10_rule_186 : decode cX10_rule 186 = .ok (.imul, 1) := by decide +kernel
theorem dX10_rule_187 : decode cX10_rule 187 = .ok (.iload_n 2, 1) := by decide +kernel
theorem dX10_rule_188 : decode cX10_rule 188 = .ok (.iadd, 1) := by decide +kernel
theorem dX10_rule_189 : decode cX10_rule 189 = .ok (.iconst 0, 1) := by decide +kernel
theorem dX10_rule_190 : decode cX10_rule 190 = .ok (.iastore, 1) := by decide +kernel
theorem dX10_rule_191 : decode cX10_rule 191 = .ok (.iinc 2 1, 3) := by decide +kernel
theorem dX10_rule_194 : decode cX10_rule 194 = .ok (.goto (-27), 3) := by decide +kernel
theorem dX10_rule_197 : decode cX10_rule 197 = .ok (.aload_n 0, 1) := by decide +kernel
end
section
theorem dX10_rule_198 : decode cX10_rule 198 = .ok (.dup, 1) := by decide +kernel
theorem dX10_rule_199 : decode cX10_rule 199 = .ok (.getfield 116, 3) := by decide +kernel
theorem dX10_rule_202 : decode cX10_rule 202 = .ok (.iconst 1, 1) := by decide +kernel
theorem dX10_rule_203 : decode cX10_rule 203 = .ok (.iadd, 1) := by decide +kernel
theorem dX10_rule_204 : decode cX10_rule 204 = .ok (.putfield 116, 3) := by decide +kernel
theorem dX10_rule_207 : decode cX10_rule 207 = .ok (.aload_n 0, 1) := by decide +kernel
theorem dX10_rule_208 : decode cX10_rule 208 = .ok (.getfield 116, 3) := by decide +kernel
theorem dX10_rule_211 : decode cX10_rule 211 = .ok (.iconst 1, 1) := by decide +kernel
theorem dX10_rule_212 : decode cX10_rule 212 = .ok (.isub, 1) := by decide +kernel
theorem dX10_rule_213 : decode cX10_rule 213 = .ok (.ireturn, 1) := by decide +kernel
theorem dX10_isRow_0 : decode cX10_isRow 0 = .ok (.iload_n 1, 1) := by decide +kernel
theorem dX10_isRow_1 : decode cX10_isRow 1 = .ok (.aload_n 0, 1) := by decide +kernel
theorem dX10_isRow_2 : decode cX10_isRow 2 = .ok (.getfield 116, 3) := by decide +kernel
theorem dX10_isRow_5 : decode cX10_isRow 5 = .ok (.invokestatic 119, 3) := by decide +kernel
theorem dX10_isRow_8 : decode cX10_isRow 8 = .ok (.ifCond .eq 18, 3) := by decide +kernel
theorem dX10_isRow_11 : decode cX10_isRow 11 = .ok (.iload_n 2, 1) := by decide +kernel
theorem dX10_isRow_12 : decode cX10_isRow 12 = .ok (.aload_n 0, 1) := by decide +kernel
theorem dX10_isRow_13 : decode cX10_isRow 13 = .ok (.getfield 113, 3) := by decide +kernel
theorem dX10_isRow_16 : decode cX10_isRow 16 = .ok (.invokestatic 119, 3) := by decide +kernel
theorem dX10_isRow_19 : decode cX10_isRow 19 = .ok (.ifCond .eq 7, 3) := by decide +kernel
theorem dX10_isRow_22 : decode cX10_isRow 22 = .ok (.iconst 1, 1) := by decide +kernel
theorem dX10_isRow_23 : decode cX10_isRow 23 = .ok (.goto 4, 3) := by decide +kernel
theorem dX10_isRow_26 : decode cX10_isRow 26 = .ok (.iconst 0, 1) := by decide +kernel
theorem dX10_isRow_27 : decode cX10_isRow 27 = .ok (.ireturn, 1) := by decide +kernel
theorem dX10_put_0 : decode cX10_put 0 = .ok (.aload_n 0, 1) := by decide +kernel
theorem dX10_put_1 : decode cX10_put 1 = .ok (.iload_n 1, 1) := by decide +kernel
theorem dX10_put_2 : decode cX10_put 2 = .ok (.iload_n 2, 1) := by decide +kernel
theorem dX10_put_3 : decode cX10_put 3 = .ok (.invokevirtual 123, 3) := by decide +kernel
theorem dX10_put_6 : decode cX10_put 6 = .ok (.ifCond .eq 14, 3) := by decide +kernel
theorem dX10_put_9 : decode cX10_put 9 = .ok (.iload_n 3, 1) := by decide +kernel
theorem dX10_put_10 : decode cX10_put 10 = .ok (.aload_n 0, 1) := by decide +kernel
theorem dX10_put_11 : decode cX10_put 11 = .ok (.getfield 101, 3) := by decide +kernel
theorem dX10_put_14 : decode cX10_put 14 = .ok (.invokestatic 119, 3) := by decide +kernel
theorem dX10_put_17 : decode cX10_put 17 = .ok (.ifCond .ne 5, 3) := by decide +kernel
theorem dX10_put_20 : decode cX10_put 20 = .ok (.iconst (-1), 1) := by decide +kernel
theorem dX10_put_21 : decode cX10_put 21 = .ok (.ireturn, 1) := by decide +kernel
theorem dX10_put_22 : decode cX10_put 22 = .ok (.aload_n 0, 1) := by decide +kernel
theorem dX10_put_23 : decode cX10_put 23 = .ok (.getfield 16, 3) := by decide +kernel
theorem dX10_put_26 : decode cX10_put 26 = .ok (.iload_n 1, 1) := by decide +kernel
theorem dX10_put_27 : decode cX10_put 27 = .ok (.iaload, 1) := by decide +kernel
theorem dX10_put_28 : decode cX10_put 28 = .ok (.iconst 1, 1) := by decide +kernel
theorem dX10_put_29 : decode cX10_put 29 = .ok (.if_icmp .le 6, 3) := by decide +kernel
theorem dX10_put_32 : decode cX10_put 32 = .ok (.bipush (-4), 2) := by decide +kernel
theorem dX10_put_34 : decode cX10_put 34 = .ok (.ireturn, 1) := by decide +kernel
theorem dX10_put_35 : decode cX10_put 35 = .ok (.aload_n 0, 1) := by decide +kernel
theorem dX10_put_36 : decode cX10_put 36 = .ok (.getfield 19, 3) := by decide +kernel
theorem dX10_put_39 : decode cX10_put 39 = .ok (.sipush 1296, 3) := by decide +kernel
theorem dX10_put_42 : decode cX10_put 42 = .ok (.iload_n 1, 1) := by decide +kernel
theorem dX10_put_43 : decode cX10_put 43 = .ok (.imul, 1) := by decide +kernel
theorem dX10_put_44 : decode cX10_put 44 = .ok (.iload_n 2, 1) := by decide +kernel
theorem dX10_put_45 : decode cX10_put 45 = .ok (.iadd, 1) := by decide +kernel
theorem dX10_put_46 : decode cX10_put 46 = .ok (.iaload, 1) := by decide +kernel
theorem dX10_put_47 : decode cX10_put 47 = .ok (.istore 4, 2) := by decide +kernel
theorem dX10_put_49 : decode cX10_put 49 = .ok (.aload_n 0, 1) := by decide +kernel
theorem dX10_put_50 : decode cX10_put 50 = .ok (.getfield 19, 3) := by decide +kernel
theorem dX10_put_53 : decode cX10_put 53 = .ok (.sipush 1296, 3) := by decide +kernel
theorem dX10_put_56 : decode cX10_put 56 = .ok (.iload_n 1, 1) := by decide +kernel
theorem dX10_put_57 : decode cX10_put 57 = .ok (.imul, 1) := by decide +kernel
theorem dX10_put_58 : decode cX10_put 58 = .ok (.iload_n 2, 1) := by decide +kernel
theorem dX10_put_59 : decode cX10_put 59 = .ok (.iadd, 1) := by decide +kernel
theorem dX10_put_60 : decode cX10_put 60 = .ok (.iload_n 3, 1) := by decide +kernel
theorem dX10_put_61 : decode cX10_put 61 = .ok (.iastore, 1) := by decide +kernel
theorem dX10_put_62 : decode cX10_put 62 = .ok (.iload 4, 2) := by decide +kernel
theorem dX10_put_64 : decode cX10_put 64 = .ok (.ireturn, 1) := by decide +kernel
theorem dX10_pay_0 : decode cX10_pay 0 = .ok (.aload_n 0, 1) := by decide +kernel
theorem dX10_pay_1 : decode cX10_pay 1 = .ok (.iload_n 1, 1) := by decide +kernel
theorem dX10_pay_2 : decode cX10_pay 2 = .ok (.iload_n 2, 1) := by decide +kernel
theorem dX10_pay_3 : decode cX10_pay 3 = .ok (.invokevirtual 123, 3) := by decide +kernel
theorem dX10_pay_6 : decode cX10_pay 6 = .ok (.ifCond .eq 30, 3) := by decide +kernel
theorem dX10_pay_9 : decode cX10_pay 9 = .ok (.iload_n 3, 1) := by decide +kernel
theorem dX10_pay_10 : decode cX10_pay 10 = .ok (.aload_n 0, 1) := by decide +kernel
theorem dX10_pay_11 : decode cX10_pay 11 = .ok (.getfield 97, 3) := by decide +kernel
theorem dX10_pay_14 : decode cX10_pay 14 = .ok (.invokestatic 119, 3) := by decide +kernel
theorem dX10_pay_17 : decode cX10_pay 17 = .ok (.ifCond .eq 19, 3) := by decide +kernel
theorem dX10_pay_20 : decode cX10_pay 20 = .ok (.iload 4, 2) := by decide +kernel
theorem dX10_pay_22 : decode cX10_pay 22 = .ok (.sipush (-9999), 3) := by decide +kernel
theorem dX10_pay_25 : decode cX10_pay 25 = .ok (.if_icmp .lt 11, 3) := by decide +kernel
theorem dX10_pay_28 : decode cX10_pay 28 = .ok (.iload 4, 2) := by decide +kernel
theorem dX10_pay_30 : decode cX10_pay 30 = .ok (.sipush 9999, 3) := by decide +kernel
theorem dX10_pay_33 : decode cX10_pay 33 = .ok (.if_icmp .le 5, 3) := by decide +kernel
theorem dX10_pay_36 : decode cX10_pay 36 = .ok (.iconst (-1), 1) := by decide +kernel
theorem dX10_pay_37 : decode cX10_pay 37 = .ok (.ireturn, 1) := by decide +kernel
theorem dX10_pay_38 : decode cX10_pay 38 = .ok (.aload_n 0, 1) := by decide +kernel
theorem dX10_pay_39 : decode cX10_pay 39 = .ok (.getfield 16, 3) := by decide +kernel
theorem dX10_pay_42 : decode cX10_pay 42 = .ok (.iload_n 1, 1) := by decide +kernel
theorem dX10_pay_43 : decode cX10_pay 43 = .ok (.iaload, 1) := by decide +kernel
theorem dX10_pay_44 : decode cX10_pay 44 = .ok (.iconst 1, 1) := by decide +kernel
theorem dX10_pay_45 : decode cX10_pay 45 = .ok (.if_icmp .eq 6, 3) := by decide +kernel
theorem dX10_pay_48 : decode cX10_pay 48 = .ok (.bipush (-4), 2) := by decide +kernel
theorem dX10_pay_50 : decode cX10_pay 50 = .ok (.ireturn, 1) := by decide +kernel
theorem dX10_pay_51 : decode cX10_pay 51 = .ok (.iconst 4, 1) := by decide +kernel
theorem dX10_pay_52 : decode cX10_pay 52 = .ok (.sipush 1296, 3) := by decide +kernel
theorem dX10_pay_55 : decode cX10_pay 55 = .ok (.iload_n 1, 1) := by decide +kernel
theorem dX10_pay_56 : decode cX10_pay 56 = .ok (.imul, 1) := by decide +kernel
theorem dX10_pay_57 : decode cX10_pay 57 = .ok (.iload_n 2, 1) := by decide +kernel
theorem dX10_pay_58 : decode cX10_pay 58 = .ok (.iadd, 1) := by decide +kernel
theorem dX10_pay_59 : decode cX10_pay 59 = .ok (.imul, 1) := by decide +kernel
theorem dX10_pay_60 : decode cX10_pay 60 = .ok (.iload_n 3, 1) := by decide +kernel
theorem dX10_pay_61 : decode cX10_pay 61 = .ok (.iadd, 1) := by decide +kernel
theorem dX10_pay_62 : decode cX10_pay 62 = .ok (.istore 5, 2) := by decide +kernel
theorem dX10_pay_64 : decode cX10_pay 64 = .ok (.aload_n 0, 1) := by decide +kernel
theorem dX10_pay_65 : decode cX10_pay 65 = .ok (.getfield 23, 3) := by decide +kernel
theorem dX10_pay_68 : decode cX10_pay 68 = .ok (.iload 5, 2) := by decide +kernel
theorem dX10_pay_70 : decode cX10_pay 70 = .ok (.iaload, 1) := by decide +kernel
theorem dX10_pay_71 : decode cX10_pay 71 = .ok (.istore 6, 2) := by decide +kernel
theorem dX10_pay_73 : decode cX10_pay 73 = .ok (.aload_n 0, 1) := by decide +kernel
theorem dX10_pay_74 : decode cX10_pay 74 = .ok (.getfield 23, 3) := by decide +kernel
theorem dX10_pay_77 : decode cX10_pay 77 = .ok (.iload 5, 2) := by decide +kernel
theorem dX10_pay_79 : decode cX10_pay 79 = .ok (.iload 4, 2) := by decide +kernel
theorem dX10_pay_81 : decode cX10_pay 81 = .ok (.iastore, 1) := by decide +kernel
theorem dX10_pay_82 : decode cX10_pay 82 = .ok (.iload 6, 2) := by decide +kernel
theorem dX10_pay_84 : decode cX10_pay 84 = .ok (.iload 4, 2) := by decide +kernel
theorem dX10_pay_86 : decode cX10_pay 86 = .ok (.if_icmp .ne 7, 3) := by decide +kernel
theorem dX10_pay_89 : decode cX10_pay 89 = .ok (.iconst 0, 1) := by decide +kernel
theorem dX10_pay_90 : decode cX10_pay 90 = .ok (.goto 4, 3) := by decide +kernel
theorem dX10_pay_93 : decode cX10_pay 93 = .ok (.iconst 1, 1) := by decide +kernel
theorem dX10_pay_94 : decode cX10_pay 94 = .ok (.ireturn, 1) := by decide +kernel
theorem dX10_gift_0 : decode cX10_gift 0 = .ok (.iload_n 3, 1) := by decide +kernel
theorem dX10_gift_1 : decode cX10_gift 1 = .ok (.iconst (-1), 1) := by decide +kernel
theorem dX10_gift_2 : decode cX10_gift 2 = .ok (.if_icmp .ne 32, 3) := by decide +kernel
theorem dX10_gift_5 : decode cX10_gift 5 = .ok (.iload_n 2, 1) := by decide +kernel
theorem dX10_gift_6 : decode cX10_gift 6 = .ok (.aload_n 0, 1) := by decide +kernel
theorem dX10_gift_7 : decode cX10_gift 7 = .ok (.getfield 101, 3) := by decide +kernel
theorem dX10_gift_10 : decode cX10_gift 10 = .ok (.invokestatic 119, 3) := by decide +kernel
theorem dX10_gift_13 : decode cX10_gift 13 = .ok (.ifCond .eq 21, 3) := by decide +kernel
theorem dX10_gift_16 : decode cX10_gift 16 = .ok (.iload 4, 2) := by decide +kernel
theorem dX10_gift_18 : decode cX10_gift 18 = .ok (.bipush (-99), 2) := by decide +kernel
theorem dX10_gift_20 : decode cX10_gift 20 = .ok (.if_icmp .lt 14, 3) := by decide +kernel
theorem dX10_gift_23 : decode cX10_gift 23 = .ok (.iload 4, 2) := by decide +kernel
theorem dX10_gift_25 : decode cX10_gift 25 = .ok (.bipush 99, 2) := by decide +kernel
theorem dX10_gift_27 : decode cX10_gift 27 = .ok (.if_icmp .gt 7, 3) := by decide +kernel
theorem dX10_gift_30 : decode cX10_gift 30 = .ok (.iconst 1, 1) := by decide +kernel
theorem dX10_gift_31 : decode cX10_gift 31 = .ok (.goto 4, 3) := by decide +kernel
theorem dX10_gift_34 : decode cX10_gift 34 = .ok (.iconst 0, 1) := by decide +kernel
theorem dX10_gift_35 : decode cX10_gift 35 = .ok (.istore 5, 2) := by decide +kernel
theorem dX10_gift_37 : decode cX10_gift 37 = .ok (.iload_n 2, 1) := by decide +kernel
theorem dX10_gift_38 : decode cX10_gift 38 = .ok (.iconst (-1), 1) := by decide +kernel
theorem dX10_gift_39 : decode cX10_gift 39 = .ok (.if_icmp .ne 28, 3) := by decide +kernel
theorem dX10_gift_42 : decode cX10_gift 42 = .ok (.iload_n 3, 1) := by decide +kernel
theorem dX10_gift_43 : decode cX10_gift 43 = .ok (.aload_n 0, 1) := by decide +kernel
theorem dX10_gift_44 : decode cX10_gift 44 = .ok (.getfield 97, 3) := by decide +kernel
theorem dX10_gift_47 : decode cX10_gift 47 = .ok (.invokestatic 119, 3) := by decide +kernel
theorem dX10_gift_50 : decode cX10_gift 50 = .ok (.ifCond .eq 17, 3) := by decide +kernel
theorem dX10_gift_53 : decode cX10_gift 53 = .ok (.iload 4, 2) := by decide +kernel
theorem dX10_gift_55 : decode cX10_gift 55 = .ok (.bipush 10, 2) := by decide +kernel
theorem dX10_gift_57 : decode cX10_gift 57 = .ok (.invokestatic 119, 3) := by decide +kernel
theorem dX10_gift_60 : decode cX10_gift 60 = .ok (.ifCond .eq 7, 3) := by decide +kernel
theorem dX10_gift_63 : decode cX10_gift 63 = .ok (.iconst 1, 1) := by decide +kernel
theorem dX10_gift_64 : decode cX10_gift 64 = .ok (.goto 4, 3) := by decide +kernel
theorem dX10_gift_67 : decode cX10_gift 67 = .ok (.iconst 0, 1) := by decide +kernel
theorem dX10_gift_68 : decode cX10_gift 68 = .ok (.istore 6, 2) := by decide +kernel
theorem dX10_gift_70 : decode cX10_gift 70 = .ok (.iload_n 1, 1) := by decide +kernel
theorem dX10_gift_71 : decode cX10_gift 71 = .ok (.aload_n 0, 1) := by decide +kernel
theorem dX10_gift_72 : decode cX10_gift 72 = .ok (.getfield 116, 3) := by decide +kernel
theorem dX10_gift_75 : decode cX10_gift 75 = .ok (.invokestatic 119, 3) := by decide +kernel
theorem dX10_gift_78 : decode cX10_gift 78 = .ok (.ifCond .eq 13, 3) := by decide +kernel
theorem dX10_gift_81 : decode cX10_gift 81 = .ok (.iload 5, 2) := by decide +kernel
theorem dX10_gift_83 : decode cX10_gift 83 = .ok (.ifCond .ne 10, 3) := by decide +kernel
theorem dX10_gift_86 : decode cX10_gift 86 = .ok (.iload 6, 2) := by decide +kernel
theorem dX10_gift_88 : decode cX10_gift 88 = .ok (.ifCond .ne 5, 3) := by decide +kernel
theorem dX10_gift_91 : decode cX10_gift 91 = .ok (.iconst (-1), 1) := by decide +kernel
theorem dX10_gift_92 : decode cX10_gift 92 = .ok (.ireturn, 1) := by decide +kernel
theorem dX10_gift_93 : decode cX10_gift 93 = .ok (.aload_n 0, 1) := by decide +kernel
theorem dX10_gift_94 : decode cX10_gift 94 = .ok (.getfield 16, 3) := by decide +kernel
theorem dX10_gift_97 : decode cX10_gift 97 = .ok (.iload_n 1, 1) := by decide +kernel
theorem dX10_gift_98 : decode cX10_gift 98 = .ok (.iaload, 1) := by decide +kernel
theorem dX10_gift_99 : decode cX10_gift 99 = .ok (.iconst 2, 1) := by decide +kernel
theorem dX10_gift_100 : decode cX10_gift 100 = .ok (.if_icmp .eq 6, 3) := by decide +kernel
theorem dX10_gift_103 : decode cX10_gift 103 = .ok (.bipush (-4), 2) := by decide +kernel
theorem dX10_gift_105 : decode cX10_gift 105 = .ok (.ireturn, 1) := by decide +kernel
theorem dX10_gift_106 : decode cX10_gift 106 = .ok (.iload 5, 2) := by decide +kernel
theorem dX10_gift_108 : decode cX10_gift 108 = .ok (.ifCond .eq 16, 3) := by decide +kernel
theorem dX10_gift_111 : decode cX10_gift 111 = .ok (.aload_n 0, 1) := by decide +kernel
theorem dX10_gift_112 : decode cX10_gift 112 = .ok (.getfield 26, 3) := by decide +kernel
theorem dX10_gift_115 : decode cX10_gift 115 = .ok (.iconst 5, 1) := by decide +kernel
theorem dX10_gift_116 : decode cX10_gift 116 = .ok (.iload_n 1, 1) := by decide +kernel
theorem dX10_gift_117 : decode cX10_gift 117 = .ok (.imul, 1) := by decide +kernel
theorem dX10_gift_118 : decode cX10_gift 118 = .ok (.iload_n 2, 1) := by decide +kernel
theorem dX10_gift_119 : decode cX10_gift 119 = .ok (.iadd, 1) := by decide +kernel
theorem dX10_gift_120 : decode cX10_gift 120 = .ok (.iaload, 1) := by decide +kernel
theorem dX10_gift_121 : decode cX10_gift 121 = .ok (.goto 13, 3) := by decide +kernel
theorem dX10_gift_124 : decode cX10_gift 124 = .ok (.aload_n 0, 1) := by decide +kernel
theorem dX10_gift_125 : decode cX10_gift 125 = .ok (.getfield 29, 3) := by decide +kernel
theorem dX10_gift_128 : decode cX10_gift 128 = .ok (.iconst 4, 1) := by decide +kernel
theorem dX10_gift_129 : decode cX10_gift 129 = .ok (.iload_n 1, 1) := by decide +kernel
theorem dX10_gift_130 : decode cX10_gift 130 = .ok (.imul, 1) := by decide +kernel
theorem dX10_gift_131 : decode cX10_gift 131 = .ok (.iload_n 3, 1) := by decide +kernel
theorem dX10_gift_132 : decode cX10_gift 132 = .ok (.iadd, 1) := by decide +kernel
theorem dX10_gift_133 : decode cX10_gift 133 = .ok (.iaload, 1) := by decide +kernel
theorem dX10_gift_134 : decode cX10_gift 134 = .ok (.istore 7, 2) := by decide +kernel
theorem dX10_gift_136 : decode cX10_gift 136 = .ok (.iload 5, 2) := by decide +kernel
theorem dX10_gift_138 : decode cX10_gift 138 = .ok (.ifCond .eq 18, 3) := by decide +kernel
theorem dX10_gift_141 : decode cX10_gift 141 = .ok (.aload_n 0, 1) := by decide +kernel
theorem dX10_gift_142 : decode cX10_gift 142 = .ok (.getfield 26, 3) := by decide +kernel
theorem dX10_gift_145 : decode cX10_gift 145 = .ok (.iconst 5, 1) := by decide +kernel
theorem dX10_gift_146 : decode cX10_gift 146 = .ok (.iload_n 1, 1) := by decide +kernel
theorem dX10_gift_147 : decode cX10_gift 147 = .ok (.imul, 1) := by decide +kernel
theorem dX10_gift_148 : decode cX10_gift 148 = .ok (.iload_n 2, 1) := by decide +kernel
theorem dX10_gift_149 : decode cX10_gift 149 = .ok (.iadd, 1) := by decide +kernel
theorem dX10_gift_150 : decode cX10_gift 150 = .ok (.iload 4, 2) := by decide +kernel
theorem dX10_gift_152 : decode cX10_gift 152 = .ok (.iastore, 1) := by decide +kernel
theorem dX10_gift_153 : decode cX10_gift 153 = .ok (.goto 15, 3) := by decide +kernel
theorem dX10_gift_156 : decode cX10_gift 156 = .ok (.aload_n 0, 1) := by decide +kernel
theorem dX10_gift_157 : decode cX10_gift 157 = .ok (.getfield 29, 3) := by decide +kernel
theorem dX10_gift_160 : decode cX10_gift 160 = .ok (.iconst 4, 1) := by decide +kernel
theorem dX10_gift_161 : decode cX10_gift 161 = .ok (.iload_n 1, 1) := by decide +kernel
theorem dX10_gift_162 : decode cX10_gift 162 = .ok (.imul, 1) := by decide +kernel
theorem dX10_gift_163 : decode cX10_gift 163 = .ok (.iload_n 3, 1) := by decide +kernel
theorem dX10_gift_164 : decode cX10_gift 164 = .ok (.iadd, 1) := by decide +kernel
theorem dX10_gift_165 : decode cX10_gift 165 = .ok (.iload 4, 2) := by decide +kernel
theorem dX10_gift_167 : decode cX10_gift 167 = .ok (.iastore, 1) := by decide +kernel
theorem dX10_gift_168 : decode cX10_gift 168 = .ok (.iload 7, 2) := by decide +kernel
theorem dX10_gift_170 : decode cX10_gift 170 = .ok (.iload 4, 2) := by decide +kernel
theorem dX10_gift_172 : decode cX10_gift 172 = .ok (.if_icmp .ne 7, 3) := by decide +kernel
theorem dX10_gift_175 : decode cX10_gift 175 = .ok (.iconst 0, 1) := by decide +kernel
theorem dX10_gift_176 : decode cX10_gift 176 = .ok (.goto 4, 3) := by decide +kernel
theorem dX10_gift_179 : decode cX10_gift 179 = .ok (.iconst 1, 1) := by decide +kernel
theorem dX10_gift_180 : decode cX10_gift 180 = .ok (.ireturn, 1) := by decide +kernel
theorem dX10_middle_0 : decode cX10_middle 0 = .ok (.iload_n 1, 1) := by decide +kernel
theorem dX10_middle_1 : decode cX10_middle 1 = .ok (.aload_n 0, 1) := by decide +kernel
theorem dX10_middle_2 : decode cX10_middle 2 = .ok (.getfield 116, 3) := by decide +kernel
theorem dX10_middle_5 : decode cX10_middle 5 = .ok (.invokestatic 119, 3) := by decide +kernel
theorem dX10_middle_8 : decode cX10_middle 8 = .ok (.ifCond .eq 27, 3) := by decide +kernel
theorem dX10_middle_11 : decode cX10_middle 11 = .ok (.iload_n 2, 1) := by decide +kernel
theorem dX10_middle_12 : decode cX10_middle 12 = .ok (.aload_n 0, 1) := by decide +kernel
theorem dX10_middle_13 : decode cX10_middle 13 = .ok (.getfield 97, 3) := by decide +kernel
theorem dX10_middle_16 : decode cX10_middle 16 = .ok (.iconst 1, 1) := by decide +kernel
theorem dX10_middle_17 : decode cX10_middle 17 = .ok (.isub, 1) := by decide +kernel
theorem dX10_middle_18 : decode cX10_middle 18 = .ok (.invokestatic 119, 3) := by decide +kernel
theorem dX10_middle_21 : decode cX10_middle 21 = .ok (.ifCond .eq 14, 3) := by decide +kernel
theorem dX10_middle_24 : decode cX10_middle 24 = .ok (.iload_n 3, 1) := by decide +kernel
theorem dX10_middle_25 : decode cX10_middle 25 = .ok (.aload_n 0, 1) := by decide +kernel
theorem dX10_middle_26 : decode cX10_middle 26 = .ok (.getfield 101, 3) := by decide +kernel
theorem dX10_middle_29 : decode cX10_middle 29 = .ok (.invokestatic 119, 3) := by decide +kernel
theorem dX10_middle_32 : decode cX10_middle 32 = .ok (.ifCond .ne 5, 3) := by decide +kernel
theorem dX10_middle_35 : decode cX10_middle 35 = .ok (.iconst (-1), 1) := by decide +kernel
theorem dX10_middle_36 : decode cX10_middle 36 = .ok (.ireturn, 1) := by decide +kernel
theorem dX10_middle_37 : decode cX10_middle 37 = .ok (.aload_n 0, 1) := by decide +kernel
theorem dX10_middle_38 : decode cX10_middle 38 = .ok (.getfield 16, 3) := by decide +kernel
theorem dX10_middle_41 : decode cX10_middle 41 = .ok (.iload_n 1, 1) := by decide +kernel
theorem dX10_middle_42 : decode cX10_middle 42 = .ok (.iaload, 1) := by decide +kernel
theorem dX10_middle_43 : decode cX10_middle 43 = .ok (.iconst 3, 1) := by decide +kernel
theorem dX10_middle_44 : decode cX10_middle 44 = .ok (.if_icmp .eq 6, 3) := by decide +kernel
theorem dX10_middle_47 : decode cX10_middle 47 = .ok (.bipush (-4), 2) := by decide +kernel
theorem dX10_middle_49 : decode cX10_middle 49 = .ok (.ireturn, 1) := by decide +kernel
theorem dX10_middle_50 : decode cX10_middle 50 = .ok (.aload_n 0, 1) := by decide +kernel
theorem dX10_middle_51 : decode cX10_middle 51 = .ok (.getfield 32, 3) := by decide +kernel
theorem dX10_middle_54 : decode cX10_middle 54 = .ok (.iconst 4, 1) := by decide +kernel
theorem dX10_middle_55 : decode cX10_middle 55 = .ok (.iload_n 1, 1) := by decide +kernel
theorem dX10_middle_56 : decode cX10_middle 56 = .ok (.imul, 1) := by decide +kernel
theorem dX10_middle_57 : decode cX10_middle 57 = .ok (.iload_n 2, 1) := by decide +kernel
theorem dX10_middle_58 : decode cX10_middle 58 = .ok (.iadd, 1) := by decide +kernel
theorem dX10_middle_59 : decode cX10_middle 59 = .ok (.iaload, 1) := by decide +kernel
theorem dX10_middle_60 : decode cX10_middle 60 = .ok (.istore 4, 2) := by decide +kernel
theorem dX10_middle_62 : decode cX10_middle 62 = .ok (.aload_n 0, 1) := by decide +kernel
theorem dX10_middle_63 : decode cX10_middle 63 = .ok (.getfield 32, 3) := by decide +kernel
theorem dX10_middle_66 : decode cX10_middle 66 = .ok (.iconst 4, 1) := by decide +kernel
theorem dX10_middle_67 : decode cX10_middle 67 = .ok (.iload_n 1, 1) := by decide +kernel
theorem dX10_middle_68 : decode cX10_middle 68 = .ok (.imul, 1) := by decide +kernel
theorem dX10_middle_69 : decode cX10_middle 69 = .ok (.iload_n 2, 1) := by decide +kernel
theorem dX10_middle_70 : decode cX10_middle 70 = .ok (.iadd, 1) := by decide +kernel
theorem dX10_middle_71 : decode cX10_middle 71 = .ok (.iload_n 3, 1) := by decide +kernel
theorem dX10_middle_72 : decode cX10_middle 72 = .ok (.iastore, 1) := by decide +kernel
theorem dX10_middle_73 : decode cX10_middle 73 = .ok (.iload 4, 2) := by decide +kernel
theorem dX10_middle_75 : decode cX10_middle 75 = .ok (.ireturn, 1) := by decide +kernel
theorem dX10_wishOf_0 : decode cX10_wishOf 0 = .ok (.iload_n 1, 1) := by decide +kernel
theorem dX10_wishOf_1 : decode cX10_wishOf 1 = .ok (.aload_n 0, 1) := by decide +kernel
theorem dX10_wishOf_2 : decode cX10_wishOf 2 = .ok (.getfield 13, 3) := by decide +kernel
theorem dX10_wishOf_5 : decode cX10_wishOf 5 = .ok (.iload_n 2, 1) := by decide +kernel
theorem dX10_wishOf_6 : decode cX10_wishOf 6 = .ok (.iaload, 1) := by decide +kernel
theorem dX10_wishOf_7 : decode cX10_wishOf 7 = .ok (.idiv, 1) := by decide +kernel
theorem dX10_wishOf_8 : decode cX10_wishOf 8 = .ok (.aload_n 0, 1) := by decide +kernel
theorem dX10_wishOf_9 : decode cX10_wishOf 9 = .ok (.getfield 110, 3) := by decide +kernel
theorem dX10_wishOf_12 : decode cX10_wishOf 12 = .ok (.irem, 1) := by decide +kernel
theorem dX10_wishOf_13 : decode cX10_wishOf 13 = .ok (.ireturn, 1) := by decide +kernel
theorem dX10_saying_0 : decode cX10_saying 0 = .ok (.iload_n 1, 1) := by decide +kernel
theorem dX10_saying_1 : decode cX10_saying 1 = .ok (.iload_n 3, 1) := by decide +kernel
theorem dX10_saying_2 : decode cX10_saying 2 = .ok (.aload_n 0, 1) := by decide +kernel
theorem dX10_saying_3 : decode cX10_saying 3 = .ok (.iload_n 1, 1) := by decide +kernel
theorem dX10_saying_4 : decode cX10_saying 4 = .ok (.iload_n 2, 1) := by decide +kernel
theorem dX10_saying_5 : decode cX10_saying 5 = .ok (.invokevirtual 126, 3) := by decide +kernel
theorem dX10_saying_8 : decode cX10_saying 8 = .ok (.isub, 1) := by decide +kernel
theorem dX10_saying_9 : decode cX10_saying 9 = .ok (.aload_n 0, 1) := by decide +kernel
theorem dX10_saying_10 : decode cX10_saying 10 = .ok (.getfield 13, 3) := by decide +kernel
theorem dX10_saying_13 : decode cX10_saying 13 = .ok (.iload_n 2, 1) := by decide +kernel
theorem dX10_saying_14 : decode cX10_saying 14 = .ok (.iaload, 1) := by decide +kernel
theorem dX10_saying_15 : decode cX10_saying 15 = .ok (.imul, 1) := by decide +kernel
theorem dX10_saying_16 : decode cX10_saying 16 = .ok (.iadd, 1) := by decide +kernel
theorem dX10_saying_17 : decode cX10_saying 17 = .ok (.ireturn, 1) := by decide +kernel
theorem dX10_sumOf_0 : decode cX10_sumOf 0 = .ok (.aload_n 0, 1) := by decide +kernel
theorem dX10_sumOf_1 : decode cX10_sumOf 1 = .ok (.getfield 26, 3) := by decide +kernel
theorem dX10_sumOf_4 : decode cX10_sumOf 4 = .ok (.iconst 5, 1) := by decide +kernel
theorem dX10_sumOf_5 : decode cX10_sumOf 5 = .ok (.iload_n 1, 1) := by decide +kernel
theorem dX10_sumOf_6 : decode cX10_sumOf 6 = .ok (.imul, 1) := by decide +kernel
theorem dX10_sumOf_7 : decode cX10_sumOf 7 = .ok (.iload_n 3, 1) := by decide +kernel
theorem dX10_sumOf_8 : decode cX10_sumOf 8 = .ok (.iadd, 1) := by decide +kernel
theorem dX10_sumOf_9 : decode cX10_sumOf 9 = .ok (.iaload, 1) := by decide +kernel
theorem dX10_sumOf_10 : decode cX10_sumOf 10 = .ok (.istore 5, 2) := by decide +kernel
theorem dX10_sumOf_12 : decode cX10_sumOf 12 = .ok (.iconst 0, 1) := by decide +kernel
theorem dX10_sumOf_13 : decode cX10_sumOf 13 = .ok (.istore 6, 2) := by decide +kernel
theorem dX10_sumOf_15 : decode cX10_sumOf 15 = .ok (.iload 6, 2) := by decide +kernel
theorem dX10_sumOf_17 : decode cX10_sumOf 17 = .ok (.aload_n 0, 1) := by decide +kernel
theorem dX10_sumOf_18 : decode cX10_sumOf 18 = .ok (.getfield 97, 3) := by decide +kernel
theorem dX10_sumOf_21 : decode cX10_sumOf 21 = .ok (.if_icmp .ge 53, 3) := by decide +kernel
theorem dX10_sumOf_24 : decode cX10_sumOf 24 = .ok (.iload 5, 2) := by decide +kernel
theorem dX10_sumOf_26 : decode cX10_sumOf 26 = .ok (.iload 6, 2) := by decide +kernel
theorem dX10_sumOf_28 : decode cX10_sumOf 28 = .ok (.iload 4, 2) := by decide +kernel
theorem dX10_sumOf_30 : decode cX10_sumOf 30 = .ok (.if_icmp .ne 7, 3) := by decide +kernel
theorem dX10_sumOf_33 : decode cX10_sumOf 33 = .ok (.iconst 0, 1) := by decide +kernel
theorem dX10_sumOf_34 : decode cX10_sumOf 34 = .ok (.goto 31, 3) := by decide +kernel
theorem dX10_sumOf_37 : decode cX10_sumOf 37 = .ok (.aload_n 0, 1) := by decide +kernel
theorem dX10_sumOf_38 : decode cX10_sumOf 38 = .ok (.getfield 29, 3) := by decide +kernel
theorem dX10_sumOf_41 : decode cX10_sumOf 41 = .ok (.iconst 4, 1) := by decide +kernel
theorem dX10_sumOf_42 : decode cX10_sumOf 42 = .ok (.iload_n 1, 1) := by decide +kernel
theorem dX10_sumOf_43 : decode cX10_sumOf 43 = .ok (.imul, 1) := by decide +kernel
theorem dX10_sumOf_44 : decode cX10_sumOf 44 = .ok (.iload 6, 2) := by decide +kernel
theorem dX10_sumOf_46 : decode cX10_sumOf 46 = .ok (.iadd, 1) := by decide +kernel
theorem dX10_sumOf_47 : decode cX10_sumOf 47 = .ok (.iaload, 1) := by decide +kernel
theorem dX10_sumOf_48 : decode cX10_sumOf 48 = .ok (.aload_n 0, 1) := by decide +kernel
theorem dX10_sumOf_49 : decode cX10_sumOf 49 = .ok (.getfield 9, 3) := by decide +kernel
theorem dX10_sumOf_52 : decode cX10_sumOf 52 = .ok (.iconst 5, 1) := by decide +kernel
theorem dX10_sumOf_53 : decode cX10_sumOf 53 = .ok (.aload_n 0, 1) := by decide +kernel
theorem dX10_sumOf_54 : decode cX10_sumOf 54 = .ok (.iload_n 2, 1) := by decide +kernel
theorem dX10_sumOf_55 : decode cX10_sumOf 55 = .ok (.iload 6, 2) := by decide +kernel
theorem dX10_sumOf_57 : decode cX10_sumOf 57 = .ok (.invokevirtual 126, 3) := by decide +kernel
theorem dX10_sumOf_60 : decode cX10_sumOf 60 = .ok (.imul, 1) := by decide +kernel
theorem dX10_sumOf_61 : decode cX10_sumOf 61 = .ok (.iload_n 3, 1) := by decide +kernel
theorem dX10_sumOf_62 : decode cX10_sumOf 62 = .ok (.iadd, 1) := by decide +kernel
theorem dX10_sumOf_63 : decode cX10_sumOf 63 = .ok (.iaload, 1) := by decide +kernel
theorem dX10_sumOf_64 : decode cX10_sumOf 64 = .ok (.imul, 1) := by decide +kernel
theorem dX10_sumOf_65 : decode cX10_sumOf 65 = .ok (.iadd, 1) := by decide +kernel
theorem dX10_sumOf_66 : decode cX10_sumOf 66 = .ok (.istore 5, 2) := by decide +kernel
theorem dX10_sumOf_68 : decode cX10_sumOf 68 = .ok (.iinc 6 1, 3) := by decide +kernel
theorem dX10_sumOf_71 : decode cX10_sumOf 71 = .ok (.goto (-56), 3) := by decide +kernel
theorem dX10_sumOf_74 : decode cX10_sumOf 74 = .ok (.iload 5, 2) := by decide +kernel
theorem dX10_sumOf_76 : decode cX10_sumOf 76 = .ok (.ireturn, 1) := by decide +kernel
theorem dX10_greatest_0 : decode cX10_greatest 0 = .ok (.iconst 0, 1) := by decide +kernel
theorem dX10_greatest_1 : decode cX10_greatest 1 = .ok (.istore 4, 2) := by decide +kernel
theorem dX10_greatest_3 : decode cX10_greatest 3 = .ok (.iconst 1, 1) := by decide +kernel
theorem dX10_greatest_4 : decode cX10_greatest 4 = .ok (.istore 5, 2) := by decide +kernel
theorem dX10_greatest_6 : decode cX10_greatest 6 = .ok (.iload 5, 2) := by decide +kernel
theorem dX10_greatest_8 : decode cX10_greatest 8 = .ok (.aload_n 0, 1) := by decide +kernel
theorem dX10_greatest_9 : decode cX10_greatest 9 = .ok (.getfield 101, 3) := by decide +kernel
theorem dX10_greatest_12 : decode cX10_greatest 12 = .ok (.if_icmp .ge 34, 3) := by decide +kernel
theorem dX10_greatest_15 : decode cX10_greatest 15 = .ok (.aload_n 0, 1) := by decide +kernel
theorem dX10_greatest_16 : decode cX10_greatest 16 = .ok (.iload_n 1, 1) := by decide +kernel
theorem dX10_greatest_17 : decode cX10_greatest 17 = .ok (.iload_n 2, 1) := by decide +kernel
theorem dX10_greatest_18 : decode cX10_greatest 18 = .ok (.iload 5, 2) := by decide +kernel
theorem dX10_greatest_20 : decode cX10_greatest 20 = .ok (.iload_n 3, 1) := by decide +kernel
theorem dX10_greatest_21 : decode cX10_greatest 21 = .ok (.invokevirtual 129, 3) := by decide +kernel
theorem dX10_greatest_24 : decode cX10_greatest 24 = .ok (.aload_n 0, 1) := by decide +kernel
theorem dX10_greatest_25 : decode cX10_greatest 25 = .ok (.iload_n 1, 1) := by decide +kernel
theorem dX10_greatest_26 : decode cX10_greatest 26 = .ok (.iload_n 2, 1) := by decide +kernel
theorem dX10_greatest_27 : decode cX10_greatest 27 = .ok (.iload 4, 2) := by decide +kernel
theorem dX10_greatest_29 : decode cX10_greatest 29 = .ok (.iload_n 3, 1) := by decide +kernel
theorem dX10_greatest_30 : decode cX10_greatest 30 = .ok (.invokevirtual 129, 3) := by decide +kernel
theorem dX10_greatest_33 : decode cX10_greatest 33 = .ok (.if_icmp .le 7, 3) := by decide +kernel
theorem dX10_greatest_36 : decode cX10_greatest 36 = .ok (.iload 5, 2) := by decide +kernel
theorem dX10_greatest_38 : decode cX10_greatest 38 = .ok (.istore 4, 2) := by decide +kernel
theorem dX10_greatest_40 : decode cX10_greatest 40 = .ok (.iinc 5 1, 3) := by decide +kernel
theorem dX10_greatest_43 : decode cX10_greatest 43 = .ok (.goto (-37), 3) := by decide +kernel
theorem dX10_greatest_46 : decode cX10_greatest 46 = .ok (.iload 4, 2) := by decide +kernel
theorem dX10_greatest_48 : decode cX10_greatest 48 = .ok (.ireturn, 1) := by decide +kernel
theorem dX10_top_0 : decode cX10_top 0 = .ok (.iconst 0, 1) := by decide +kernel
theorem dX10_top_1 : decode cX10_top 1 = .ok (.istore_n 2, 1) := by decide +kernel
theorem dX10_top_2 : decode cX10_top 2 = .ok (.iconst 1, 1) := by decide +kernel
theorem dX10_top_3 : decode cX10_top 3 = .ok (.istore_n 3, 1) := by decide +kernel
theorem dX10_top_4 : decode cX10_top 4 = .ok (.iload_n 3, 1) := by decide +kernel
theorem dX10_top_5 : decode cX10_top 5 = .ok (.aload_n 0, 1) := by decide +kernel
theorem dX10_top_6 : decode cX10_top 6 = .ok (.getfield 101, 3) := by decide +kernel
theorem dX10_top_9 : decode cX10_top 9 = .ok (.if_icmp .ge 34, 3) := by decide +kernel
theorem dX10_top_12 : decode cX10_top 12 = .ok (.aload_n 0, 1) := by decide +kernel
theorem dX10_top_13 : decode cX10_top 13 = .ok (.getfield 9, 3) := by decide +kernel
theorem dX10_top_16 : decode cX10_top 16 = .ok (.iconst 5, 1) := by decide +kernel
theorem dX10_top_17 : decode cX10_top 17 = .ok (.iload_n 1, 1) := by decide +kernel
theorem dX10_top_18 : decode cX10_top 18 = .ok (.imul, 1) := by decide +kernel
theorem dX10_top_19 : decode cX10_top 19 = .ok (.iload_n 3, 1) := by decide +kernel
theorem dX10_top_20 : decode cX10_top 20 = .ok (.iadd, 1) := by decide +kernel
theorem dX10_top_21 : decode cX10_top 21 = .ok (.iaload, 1) := by decide +kernel
theorem dX10_top_22 : decode cX10_top 22 = .ok (.aload_n 0, 1) := by decide +kernel
theorem dX10_top_23 : decode cX10_top 23 = .ok (.getfield 9, 3) := by decide +kernel
theorem dX10_top_26 : decode cX10_top 26 = .ok (.iconst 5, 1) := by decide +kernel
theorem dX10_top_27 : decode cX10_top 27 = .ok (.iload_n 1, 1) := by decide +kernel
theorem dX10_top_28 : decode cX10_top 28 = .ok (.imul, 1) := by decide +kernel
theorem dX10_top_29 : decode cX10_top 29 = .ok (.iload_n 2, 1) := by decide +kernel
theorem dX10_top_30 : decode cX10_top 30 = .ok (.iadd, 1) := by decide +kernel
theorem dX10_top_31 : decode cX10_top 31 = .ok (.iaload, 1) := by decide +kernel
theorem dX10_top_32 : decode cX10_top 32 = .ok (.if_icmp .le 5, 3) := by decide +kernel
theorem dX10_top_35 : decode cX10_top 35 = .ok (.iload_n 3, 1) := by decide +kernel
theorem dX10_top_36 : decode cX10_top 36 = .ok (.istore_n 2, 1) := by decide +kernel
theorem dX10_top_37 : decode cX10_top 37 = .ok (.iinc 3 1, 3) := by decide +kernel
theorem dX10_top_40 : decode cX10_top 40 = .ok (.goto (-36), 3) := by decide +kernel
theorem dX10_top_43 : decode cX10_top 43 = .ok (.iload_n 2, 1) := by decide +kernel
theorem dX10_top_44 : decode cX10_top 44 = .ok (.ireturn, 1) := by decide +kernel
theorem dX10_middleOf_0 : decode cX10_middleOf 0 = .ok (.iconst 0, 1) := by decide +kernel
theorem dX10_middleOf_1 : decode cX10_middleOf 1 = .ok (.istore_n 3, 1) := by decide +kernel
theorem dX10_middleOf_2 : decode cX10_middleOf 2 = .ok (.iload_n 3, 1) := by decide +kernel
theorem dX10_middleOf_3 : decode cX10_middleOf 3 = .ok (.aload_n 0, 1) := by decide +kernel
theorem dX10_middleOf_4 : decode cX10_middleOf 4 = .ok (.getfield 101, 3) := by decide +kernel
theorem dX10_middleOf_7 : decode cX10_middleOf 7 = .ok (.if_icmp .ge 111, 3) := by decide +kernel
theorem dX10_middleOf_10 : decode cX10_middleOf 10 = .ok (.iconst 0, 1) := by decide +kernel
theorem dX10_middleOf_11 : decode cX10_middleOf 11 = .ok (.istore 4, 2) := by decide +kernel
theorem dX10_middleOf_13 : decode cX10_middleOf 13 = .ok (.iconst 0, 1) := by decide +kernel
theorem dX10_middleOf_14 : decode cX10_middleOf 14 = .ok (.istore 5, 2) := by decide +kernel
theorem dX10_middleOf_16 : decode cX10_middleOf 16 = .ok (.iload 5, 2) := by decide +kernel
theorem dX10_middleOf_18 : decode cX10_middleOf 18 = .ok (.aload_n 0, 1) := by decide +kernel
theorem dX10_middleOf_19 : decode cX10_middleOf 19 = .ok (.getfield 97, 3) := by decide +kernel
theorem dX10_middleOf_22 : decode cX10_middleOf 22 = .ok (.if_icmp .ge 34, 3) := by decide +kernel
theorem dX10_middleOf_25 : decode cX10_middleOf 25 = .ok (.iload 4, 2) := by decide +kernel
theorem dX10_middleOf_27 : decode cX10_middleOf 27 = .ok (.aload_n 0, 1) := by decide +kernel
theorem dX10_middleOf_28 : decode cX10_middleOf 28 = .ok (.aload_n 0, 1) := by decide +kernel
theorem dX10_middleOf_29 : decode cX10_middleOf 29 = .ok (.iload_n 2, 1) := by decide +kernel
theorem dX10_middleOf_30 : decode cX10_middleOf 30 = .ok (.iload 5, 2) := by decide +kernel
theorem dX10_middleOf_32 : decode cX10_middleOf 32 = .ok (.invokevirtual 126, 3) := by decide +kernel
theorem dX10_middleOf_35 : decode cX10_middleOf 35 = .ok (.invokevirtual 133, 3) := by decide +kernel
theorem dX10_middleOf_38 : decode cX10_middleOf 38 = .ok (.iload_n 3, 1) := by decide +kernel
theorem dX10_middleOf_39 : decode cX10_middleOf 39 = .ok (.if_icmp .gt 7, 3) := by decide +kernel
theorem dX10_middleOf_42 : decode cX10_middleOf 42 = .ok (.iconst 1, 1) := by decide +kernel
theorem dX10_middleOf_43 : decode cX10_middleOf 43 = .ok (.goto 4, 3) := by decide +kernel
theorem dX10_middleOf_46 : decode cX10_middleOf 46 = .ok (.iconst 0, 1) := by decide +kernel
theorem dX10_middleOf_47 : decode cX10_middleOf 47 = .ok (.iadd, 1) := by decide +kernel
theorem dX10_middleOf_48 : decode cX10_middleOf 48 = .ok (.istore 4, 2) := by decide +kernel
theorem dX10_middleOf_50 : decode cX10_middleOf 50 = .ok (.iinc 5 1, 3) := by decide +kernel
theorem dX10_middleOf_53 : decode cX10_middleOf 53 = .ok (.goto (-37), 3) := by decide +kernel
theorem dX10_middleOf_56 : decode cX10_middleOf 56 = .ok (.iconst 0, 1) := by decide +kernel
theorem dX10_middleOf_57 : decode cX10_middleOf 57 = .ok (.istore 5, 2) := by decide +kernel
theorem dX10_middleOf_59 : decode cX10_middleOf 59 = .ok (.iload 5, 2) := by decide +kernel
theorem dX10_middleOf_61 : decode cX10_middleOf 61 = .ok (.aload_n 0, 1) := by decide +kernel
theorem dX10_middleOf_62 : decode cX10_middleOf 62 = .ok (.getfield 97, 3) := by decide +kernel
theorem dX10_middleOf_65 : decode cX10_middleOf 65 = .ok (.iconst 1, 1) := by decide +kernel
theorem dX10_middleOf_66 : decode cX10_middleOf 66 = .ok (.isub, 1) := by decide +kernel
theorem dX10_middleOf_67 : decode cX10_middleOf 67 = .ok (.if_icmp .ge 34, 3) := by decide +kernel
theorem dX10_middleOf_70 : decode cX10_middleOf 70 = .ok (.iload 4, 2) := by decide +kernel
theorem dX10_middleOf_72 : decode cX10_middleOf 72 = .ok (.aload_n 0, 1) := by decide +kernel
theorem dX10_middleOf_73 : decode cX10_middleOf 73 = .ok (.getfield 32, 3) := by decide +kernel
theorem dX10_middleOf_76 : decode cX10_middleOf 76 = .ok (.iconst 4, 1) := by decide +kernel
theorem dX10_middleOf_77 : decode cX10_middleOf 77 = .ok (.iload_n 1, 1) := by decide +kernel
theorem dX10_middleOf_78 : decode cX10_middleOf 78 = .ok (.imul, 1) := by decide +kernel
theorem dX10_middleOf_79 : decode cX10_middleOf 79 = .ok (.iload 5, 2) := by decide +kernel
theorem dX10_middleOf_81 : decode cX10_middleOf 81 = .ok (.iadd, 1) := by decide +kernel
theorem dX10_middleOf_82 : decode cX10_middleOf 82 = .ok (.iaload, 1) := by decide +kernel
theorem dX10_middleOf_83 : decode cX10_middleOf 83 = .ok (.iload_n 3, 1) := by decide +kernel
theorem dX10_middleOf_84 : decode cX10_middleOf 84 = .ok (.if_icmp .gt 7, 3) := by decide +kernel
theorem dX10_middleOf_87 : decode cX10_middleOf 87 = .ok (.iconst 1, 1) := by decide +kernel
theorem dX10_middleOf_88 : decode cX10_middleOf 88 = .ok (.goto 4, 3) := by decide +kernel
theorem dX10_middleOf_91 : decode cX10_middleOf 91 = .ok (.iconst 0, 1) := by decide +kernel
theorem dX10_middleOf_92 : decode cX10_middleOf 92 = .ok (.iadd, 1) := by decide +kernel
theorem dX10_middleOf_93 : decode cX10_middleOf 93 = .ok (.istore 4, 2) := by decide +kernel
theorem dX10_middleOf_95 : decode cX10_middleOf 95 = .ok (.iinc 5 1, 3) := by decide +kernel
theorem dX10_middleOf_98 : decode cX10_middleOf 98 = .ok (.goto (-39), 3) := by decide +kernel
theorem dX10_middleOf_101 : decode cX10_middleOf 101 = .ok (.iload 4, 2) := by decide +kernel
theorem dX10_middleOf_103 : decode cX10_middleOf 103 = .ok (.aload_n 0, 1) := by decide +kernel
theorem dX10_middleOf_104 : decode cX10_middleOf 104 = .ok (.getfield 97, 3) := by decide +kernel
theorem dX10_middleOf_107 : decode cX10_middleOf 107 = .ok (.if_icmp .lt 5, 3) := by decide +kernel
theorem dX10_middleOf_110 : decode cX10_middleOf 110 = .ok (.iload_n 3, 1) := by decide +kernel
theorem dX10_middleOf_111 : decode cX10_middleOf 111 = .ok (.ireturn, 1) := by decide +kernel
theorem dX10_middleOf_112 : decode cX10_middleOf 112 = .ok (.iinc 3 1, 3) := by decide +kernel
theorem dX10_middleOf_115 : decode cX10_middleOf 115 = .ok (.goto (-113), 3) := by decide +kernel
theorem dX10_middleOf_118 : decode cX10_middleOf 118 = .ok (.aload_n 0, 1) := by decide +kernel
theorem dX10_middleOf_119 : decode cX10_middleOf 119 = .ok (.getfield 101, 3) := by decide +kernel
theorem dX10_middleOf_122 : decode cX10_middleOf 122 = .ok (.iconst 1, 1) := by decide +kernel
theorem dX10_middleOf_123 : decode cX10_middleOf 123 = .ok (.isub, 1) := by decide +kernel
theorem dX10_middleOf_124 : decode cX10_middleOf 124 = .ok (.ireturn, 1) := by decide +kernel
theorem dX10_ends_0 : decode cX10_ends 0 = .ok (.aload_n 0, 1) := by decide +kernel
theorem dX10_ends_1 : decode cX10_ends 1 = .ok (.getfield 16, 3) := by decide +kernel
theorem dX10_ends_4 : decode cX10_ends 4 = .ok (.iload_n 1, 1) := by decide +kernel
theorem dX10_ends_5 : decode cX10_ends 5 = .ok (.iaload, 1) := by decide +kernel
theorem dX10_ends_6 : decode cX10_ends 6 = .ok (.lookupswitch 41 #[(2, 26), (3, 34)], 26) := by decide +kernel
theorem dX10_ends_32 : decode cX10_ends 32 = .ok (.aload_n 0, 1) := by decide +kernel
theorem dX10_ends_33 : decode cX10_ends 33 = .ok (.iload_n 1, 1) := by decide +kernel
theorem dX10_ends_34 : decode cX10_ends 34 = .ok (.iload_n 2, 1) := by decide +kernel
theorem dX10_ends_35 : decode cX10_ends 35 = .ok (.iconst (-1), 1) := by decide +kernel
theorem dX10_ends_36 : decode cX10_ends 36 = .ok (.invokevirtual 137, 3) := by decide +kernel
theorem dX10_ends_39 : decode cX10_ends 39 = .ok (.ireturn, 1) := by decide +kernel
theorem dX10_ends_40 : decode cX10_ends 40 = .ok (.aload_n 0, 1) := by decide +kernel
theorem dX10_ends_41 : decode cX10_ends 41 = .ok (.iload_n 1, 1) := by decide +kernel
theorem dX10_ends_42 : decode cX10_ends 42 = .ok (.iload_n 2, 1) := by decide +kernel
theorem dX10_ends_43 : decode cX10_ends 43 = .ok (.invokevirtual 141, 3) := by decide +kernel
theorem dX10_ends_46 : decode cX10_ends 46 = .ok (.ireturn, 1) := by decide +kernel
theorem dX10_ends_47 : decode cX10_ends 47 = .ok (.aload_n 0, 1) := by decide +kernel
theorem dX10_ends_48 : decode cX10_ends 48 = .ok (.getfield 19, 3) := by decide +kernel
theorem dX10_ends_51 : decode cX10_ends 51 = .ok (.sipush 1296, 3) := by decide +kernel
theorem dX10_ends_54 : decode cX10_ends 54 = .ok (.iload_n 1, 1) := by decide +kernel
theorem dX10_ends_55 : decode cX10_ends 55 = .ok (.imul, 1) := by decide +kernel
theorem dX10_ends_56 : decode cX10_ends 56 = .ok (.iload_n 2, 1) := by decide +kernel
theorem dX10_ends_57 : decode cX10_ends 57 = .ok (.iadd, 1) := by decide +kernel
theorem dX10_ends_58 : decode cX10_ends 58 = .ok (.iaload, 1) := by decide +kernel
theorem dX10_ends_59 : decode cX10_ends 59 = .ok (.ireturn, 1) := by decide +kernel
theorem dX10_paysOf_0 : decode cX10_paysOf 0 = .ok (.aload_n 0, 1) := by decide +kernel
theorem dX10_paysOf_1 : decode cX10_paysOf 1 = .ok (.getfield 16, 3) := by decide +kernel
theorem dX10_paysOf_4 : decode cX10_paysOf 4 = .ok (.iload_n 1, 1) := by decide +kernel
theorem dX10_paysOf_5 : decode cX10_paysOf 5 = .ok (.iaload, 1) := by decide +kernel
theorem dX10_paysOf_6 : decode cX10_paysOf 6 = .ok (.iconst 1, 1) := by decide +kernel
theorem dX10_paysOf_7 : decode cX10_paysOf 7 = .ok (.if_icmp .ne 20, 3) := by decide +kernel
theorem dX10_paysOf_10 : decode cX10_paysOf 10 = .ok (.aload_n 0, 1) := by decide +kernel
theorem dX10_paysOf_11 : decode cX10_paysOf 11 = .ok (.getfield 23, 3) := by decide +kernel
theorem dX10_paysOf_14 : decode cX10_paysOf 14 = .ok (.iconst 4, 1) := by decide +kernel
theorem dX10_paysOf_15 : decode cX10_paysOf 15 = .ok (.sipush 1296, 3) := by decide +kernel
theorem dX10_paysOf_18 : decode cX10_paysOf 18 = .ok (.iload_n 1, 1) := by decide +kernel
theorem dX10_paysOf_19 : decode cX10_paysOf 19 = .ok (.imul, 1) := by decide +kernel
theorem dX10_paysOf_20 : decode cX10_paysOf 20 = .ok (.iload_n 2, 1) := by decide +kernel
theorem dX10_paysOf_21 : decode cX10_paysOf 21 = .ok (.iadd, 1) := by decide +kernel
theorem dX10_paysOf_22 : decode cX10_paysOf 22 = .ok (.imul, 1) := by decide +kernel
theorem dX10_paysOf_23 : decode cX10_paysOf 23 = .ok (.iload_n 3, 1) := by decide +kernel
theorem dX10_paysOf_24 : decode cX10_paysOf 24 = .ok (.iadd, 1) := by decide +kernel
theorem dX10_paysOf_25 : decode cX10_paysOf 25 = .ok (.iaload, 1) := by decide +kernel
theorem dX10_paysOf_26 : decode cX10_paysOf 26 = .ok (.ireturn, 1) := by decide +kernel
theorem dX10_paysOf_27 : decode cX10_paysOf 27 = .ok (.aload_n 0, 1) := by decide +kernel
theorem dX10_paysOf_28 : decode cX10_paysOf 28 = .ok (.getfield 16, 3) := by decide +kernel
theorem dX10_paysOf_31 : decode cX10_paysOf 31 = .ok (.iload_n 1, 1) := by decide +kernel
theorem dX10_paysOf_32 : decode cX10_paysOf 32 = .ok (.iaload, 1) := by decide +kernel
theorem dX10_paysOf_33 : decode cX10_paysOf 33 = .ok (.iconst 2, 1) := by decide +kernel
theorem dX10_paysOf_34 : decode cX10_paysOf 34 = .ok (.if_icmp .ne 16, 3) := by decide +kernel
theorem dX10_paysOf_37 : decode cX10_paysOf 37 = .ok (.aload_n 0, 1) := by decide +kernel
theorem dX10_paysOf_38 : decode cX10_paysOf 38 = .ok (.getfield 29, 3) := by decide +kernel
theorem dX10_paysOf_41 : decode cX10_paysOf 41 = .ok (.iconst 4, 1) := by decide +kernel
theorem dX10_paysOf_42 : decode cX10_paysOf 42 = .ok (.iload_n 1, 1) := by decide +kernel
theorem dX10_paysOf_43 : decode cX10_paysOf 43 = .ok (.imul, 1) := by decide +kernel
theorem dX10_paysOf_44 : decode cX10_paysOf 44 = .ok (.iload_n 3, 1) := by decide +kernel
theorem dX10_paysOf_45 : decode cX10_paysOf 45 = .ok (.iadd, 1) := by decide +kernel
theorem dX10_paysOf_46 : decode cX10_paysOf 46 = .ok (.iaload, 1) := by decide +kernel
theorem dX10_paysOf_47 : decode cX10_paysOf 47 = .ok (.ifCond .ne 5, 3) := by decide +kernel
theorem dX10_paysOf_50 : decode cX10_paysOf 50 = .ok (.iconst 0, 1) := by decide +kernel
theorem dX10_paysOf_51 : decode cX10_paysOf 51 = .ok (.ireturn, 1) := by decide +kernel
theorem dX10_paysOf_52 : decode cX10_paysOf 52 = .ok (.aload_n 0, 1) := by decide +kernel
theorem dX10_paysOf_53 : decode cX10_paysOf 53 = .ok (.iload_n 1, 1) := by decide +kernel
theorem dX10_paysOf_54 : decode cX10_paysOf 54 = .ok (.iload_n 2, 1) := by decide +kernel
theorem dX10_paysOf_55 : decode cX10_paysOf 55 = .ok (.aload_n 0, 1) := by decide +kernel
theorem dX10_paysOf_56 : decode cX10_paysOf 56 = .ok (.iload_n 1, 1) := by decide +kernel
theorem dX10_paysOf_57 : decode cX10_paysOf 57 = .ok (.iload_n 2, 1) := by decide +kernel
theorem dX10_paysOf_58 : decode cX10_paysOf 58 = .ok (.iload_n 3, 1) := by decide +kernel
theorem dX10_paysOf_59 : decode cX10_paysOf 59 = .ok (.invokevirtual 137, 3) := by decide +kernel
theorem dX10_paysOf_62 : decode cX10_paysOf 62 = .ok (.iload_n 3, 1) := by decide +kernel
theorem dX10_paysOf_63 : decode cX10_paysOf 63 = .ok (.invokevirtual 129, 3) := by decide +kernel
theorem dX10_paysOf_66 : decode cX10_paysOf 66 = .ok (.aload_n 0, 1) := by decide +kernel
theorem dX10_paysOf_67 : decode cX10_paysOf 67 = .ok (.iload_n 1, 1) := by decide +kernel
theorem dX10_paysOf_68 : decode cX10_paysOf 68 = .ok (.iload_n 2, 1) := by decide +kernel
theorem dX10_paysOf_69 : decode cX10_paysOf 69 = .ok (.aload_n 0, 1) := by decide +kernel
theorem dX10_paysOf_70 : decode cX10_paysOf 70 = .ok (.iload_n 1, 1) := by decide +kernel
theorem dX10_paysOf_71 : decode cX10_paysOf 71 = .ok (.iload_n 2, 1) := by decide +kernel
theorem dX10_paysOf_72 : decode cX10_paysOf 72 = .ok (.iconst (-1), 1) := by decide +kernel
theorem dX10_paysOf_73 : decode cX10_paysOf 73 = .ok (.invokevirtual 137, 3) := by decide +kernel
theorem dX10_paysOf_76 : decode cX10_paysOf 76 = .ok (.iload_n 3, 1) := by decide +kernel
theorem dX10_paysOf_77 : decode cX10_paysOf 77 = .ok (.invokevirtual 129, 3) := by decide +kernel
theorem dX10_paysOf_80 : decode cX10_paysOf 80 = .ok (.isub, 1) := by decide +kernel
theorem dX10_paysOf_81 : decode cX10_paysOf 81 = .ok (.istore 4, 2) := by decide +kernel
theorem dX10_paysOf_83 : decode cX10_paysOf 83 = .ok (.iload 4, 2) := by decide +kernel
theorem dX10_paysOf_85 : decode cX10_paysOf 85 = .ok (.aload_n 0, 1) := by decide +kernel
theorem dX10_paysOf_86 : decode cX10_paysOf 86 = .ok (.getfield 29, 3) := by decide +kernel
theorem dX10_paysOf_89 : decode cX10_paysOf 89 = .ok (.iconst 4, 1) := by decide +kernel
theorem dX10_paysOf_90 : decode cX10_paysOf 90 = .ok (.iload_n 1, 1) := by decide +kernel
theorem dX10_paysOf_91 : decode cX10_paysOf 91 = .ok (.imul, 1) := by decide +kernel
theorem dX10_paysOf_92 : decode cX10_paysOf 92 = .ok (.iload_n 3, 1) := by decide +kernel
theorem dX10_paysOf_93 : decode cX10_paysOf 93 = .ok (.iadd, 1) := by decide +kernel
theorem dX10_paysOf_94 : decode cX10_paysOf 94 = .ok (.iaload, 1) := by decide +kernel
theorem dX10_paysOf_95 : decode cX10_paysOf 95 = .ok (.idiv, 1) := by decide +kernel
theorem dX10_paysOf_96 : decode cX10_paysOf 96 = .ok (.ireturn, 1) := by decide +kernel
theorem dX10_end_0 : decode cX10_end 0 = .ok (.aload_n 0, 1) := by decide +kernel
theorem dX10_end_1 : decode cX10_end 1 = .ok (.iload_n 1, 1) := by decide +kernel
theorem dX10_end_2 : decode cX10_end 2 = .ok (.iload_n 2, 1) := by decide +kernel
theorem dX10_end_3 : decode cX10_end 3 = .ok (.invokevirtual 123, 3) := by decide +kernel
theorem dX10_end_6 : decode cX10_end 6 = .ok (.ifCond .eq 12, 3) := by decide +kernel
theorem dX10_end_9 : decode cX10_end 9 = .ok (.aload_n 0, 1) := by decide +kernel
theorem dX10_end_10 : decode cX10_end 10 = .ok (.iload_n 1, 1) := by decide +kernel
theorem dX10_end_11 : decode cX10_end 11 = .ok (.iload_n 2, 1) := by decide +kernel
theorem dX10_end_12 : decode cX10_end 12 = .ok (.invokevirtual 144, 3) := by decide +kernel
theorem dX10_end_15 : decode cX10_end 15 = .ok (.goto 4, 3) := by decide +kernel
theorem dX10_end_18 : decode cX10_end 18 = .ok (.iconst (-1), 1) := by decide +kernel
theorem dX10_end_19 : decode cX10_end 19 = .ok (.ireturn, 1) := by decide +kernel
theorem dX10_pays_0 : decode cX10_pays 0 = .ok (.aload_n 0, 1) := by decide +kernel
theorem dX10_pays_1 : decode cX10_pays 1 = .ok (.iconst 0, 1) := by decide +kernel
theorem dX10_pays_2 : decode cX10_pays 2 = .ok (.putfield 107, 3) := by decide +kernel
theorem dX10_pays_5 : decode cX10_pays 5 = .ok (.aload_n 0, 1) := by decide +kernel
theorem dX10_pays_6 : decode cX10_pays 6 = .ok (.iload_n 1, 1) := by decide +kernel
theorem dX10_pays_7 : decode cX10_pays 7 = .ok (.iload_n 2, 1) := by decide +kernel
theorem dX10_pays_8 : decode cX10_pays 8 = .ok (.invokevirtual 123, 3) := by decide +kernel
theorem dX10_pays_11 : decode cX10_pays 11 = .ok (.ifCond .eq 14, 3) := by decide +kernel
theorem dX10_pays_14 : decode cX10_pays 14 = .ok (.iload_n 3, 1) := by decide +kernel
theorem dX10_pays_15 : decode cX10_pays 15 = .ok (.aload_n 0, 1) := by decide +kernel
theorem dX10_pays_16 : decode cX10_pays 16 = .ok (.getfield 97, 3) := by decide +kernel
theorem dX10_pays_19 : decode cX10_pays 19 = .ok (.invokestatic 119, 3) := by decide +kernel
theorem dX10_pays_22 : decode cX10_pays 22 = .ok (.ifCond .ne 9, 3) := by decide +kernel
theorem dX10_pays_25 : decode cX10_pays 25 = .ok (.aload_n 0, 1) := by decide +kernel
theorem dX10_pays_26 : decode cX10_pays 26 = .ok (.iconst 1, 1) := by decide +kernel
theorem dX10_pays_27 : decode cX10_pays 27 = .ok (.invokevirtual 147, 3) := by decide +kernel
theorem dX10_pays_30 : decode cX10_pays 30 = .ok (.ireturn, 1) := by decide +kernel
theorem dX10_pays_31 : decode cX10_pays 31 = .ok (.aload_n 0, 1) := by decide +kernel
theorem dX10_pays_32 : decode cX10_pays 32 = .ok (.iload_n 1, 1) := by decide +kernel
theorem dX10_pays_33 : decode cX10_pays 33 = .ok (.iload_n 2, 1) := by decide +kernel
theorem dX10_pays_34 : decode cX10_pays 34 = .ok (.iload_n 3, 1) := by decide +kernel
theorem dX10_pays_35 : decode cX10_pays 35 = .ok (.invokevirtual 150, 3) := by decide +kernel
theorem dX10_pays_38 : decode cX10_pays 38 = .ok (.ireturn, 1) := by decide +kernel
theorem dX10_said_0 : decode cX10_said 0 = .ok (.iload_n 1, 1) := by decide +kernel
theorem dX10_said_1 : decode cX10_said 1 = .ok (.aload_n 0, 1) := by decide +kernel
theorem dX10_said_2 : decode cX10_said 2 = .ok (.getfield 113, 3) := by decide +kernel
theorem dX10_said_5 : decode cX10_said 5 = .ok (.invokestatic 119, 3) := by decide +kernel
theorem dX10_said_8 : decode cX10_said 8 = .ok (.ifCond .eq 35, 3) := by decide +kernel
theorem dX10_said_11 : decode cX10_said 11 = .ok (.iload_n 2, 1) := by decide +kernel
theorem dX10_said_12 : decode cX10_said 12 = .ok (.aload_n 0, 1) := by decide +kernel
theorem dX10_said_13 : decode cX10_said 13 = .ok (.getfield 97, 3) := by decide +kernel
theorem dX10_said_16 : decode cX10_said 16 = .ok (.invokestatic 119, 3) := by decide +kernel
theorem dX10_said_19 : decode cX10_said 19 = .ok (.ifCond .eq 24, 3) := by decide +kernel
theorem dX10_said_22 : decode cX10_said 22 = .ok (.iload_n 3, 1) := by decide +kernel
theorem dX10_said_23 : decode cX10_said 23 = .ok (.aload_n 0, 1) := by decide +kernel
theorem dX10_said_24 : decode cX10_said 24 = .ok (.getfield 110, 3) := by decide +kernel
theorem dX10_said_27 : decode cX10_said 27 = .ok (.invokestatic 119, 3) := by decide +kernel
theorem dX10_said_30 : decode cX10_said 30 = .ok (.ifCond .eq 13, 3) := by decide +kernel
theorem dX10_said_33 : decode cX10_said 33 = .ok (.aload_n 0, 1) := by decide +kernel
theorem dX10_said_34 : decode cX10_said 34 = .ok (.iload_n 1, 1) := by decide +kernel
theorem dX10_said_35 : decode cX10_said 35 = .ok (.iload_n 2, 1) := by decide +kernel
theorem dX10_said_36 : decode cX10_said 36 = .ok (.iload_n 3, 1) := by decide +kernel
theorem dX10_said_37 : decode cX10_said 37 = .ok (.invokevirtual 153, 3) := by decide +kernel
theorem dX10_said_40 : decode cX10_said 40 = .ok (.goto 4, 3) := by decide +kernel
theorem dX10_said_43 : decode cX10_said 43 = .ok (.iconst (-1), 1) := by decide +kernel
theorem dX10_said_44 : decode cX10_said 44 = .ok (.ireturn, 1) := by decide +kernel
theorem dX10_worthOf_0 : decode cX10_worthOf 0 = .ok (.aload_n 0, 1) := by decide +kernel
theorem dX10_worthOf_1 : decode cX10_worthOf 1 = .ok (.getfield 9, 3) := by decide +kernel
theorem dX10_worthOf_4 : decode cX10_worthOf 4 = .ok (.iconst 5, 1) := by decide +kernel
theorem dX10_worthOf_5 : decode cX10_worthOf 5 = .ok (.iload 4, 2) := by decide +kernel
theorem dX10_worthOf_7 : decode cX10_worthOf 7 = .ok (.imul, 1) := by decide +kernel
theorem dX10_worthOf_8 : decode cX10_worthOf 8 = .ok (.aload_n 0, 1) := by decide +kernel
theorem dX10_worthOf_9 : decode cX10_worthOf 9 = .ok (.iload_n 1, 1) := by decide +kernel
theorem dX10_worthOf_10 : decode cX10_worthOf 10 = .ok (.iload_n 2, 1) := by decide +kernel
theorem dX10_worthOf_11 : decode cX10_worthOf 11 = .ok (.invokevirtual 144, 3) := by decide +kernel
theorem dX10_worthOf_14 : decode cX10_worthOf 14 = .ok (.iadd, 1) := by decide +kernel
theorem dX10_worthOf_15 : decode cX10_worthOf 15 = .ok (.iaload, 1) := by decide +kernel
theorem dX10_worthOf_16 : decode cX10_worthOf 16 = .ok (.aload_n 0, 1) := by decide +kernel
theorem dX10_worthOf_17 : decode cX10_worthOf 17 = .ok (.iload_n 1, 1) := by decide +kernel
theorem dX10_worthOf_18 : decode cX10_worthOf 18 = .ok (.iload_n 2, 1) := by decide +kernel
theorem dX10_worthOf_19 : decode cX10_worthOf 19 = .ok (.iload_n 3, 1) := by decide +kernel
theorem dX10_worthOf_20 : decode cX10_worthOf 20 = .ok (.invokevirtual 150, 3) := by decide +kernel
theorem dX10_worthOf_23 : decode cX10_worthOf 23 = .ok (.isub, 1) := by decide +kernel
theorem dX10_worthOf_24 : decode cX10_worthOf 24 = .ok (.ireturn, 1) := by decide +kernel
theorem dX10_gainOf_0 : decode cX10_gainOf 0 = .ok (.aload_n 0, 1) := by decide +kernel
theorem dX10_gainOf_1 : decode cX10_gainOf 1 = .ok (.iload_n 2, 1) := by decide +kernel
theorem dX10_gainOf_2 : decode cX10_gainOf 2 = .ok (.iload_n 3, 1) := by decide +kernel
theorem dX10_gainOf_3 : decode cX10_gainOf 3 = .ok (.invokevirtual 126, 3) := by decide +kernel
theorem dX10_gainOf_6 : decode cX10_gainOf 6 = .ok (.istore 5, 2) := by decide +kernel
theorem dX10_gainOf_8 : decode cX10_gainOf 8 = .ok (.aload_n 0, 1) := by decide +kernel
theorem dX10_gainOf_9 : decode cX10_gainOf 9 = .ok (.iload_n 1, 1) := by decide +kernel
theorem dX10_gainOf_10 : decode cX10_gainOf 10 = .ok (.iload 4, 2) := by decide +kernel
theorem dX10_gainOf_12 : decode cX10_gainOf 12 = .ok (.iload_n 3, 1) := by decide +kernel
theorem dX10_gainOf_13 : decode cX10_gainOf 13 = .ok (.iload 5, 2) := by decide +kernel
theorem dX10_gainOf_15 : decode cX10_gainOf 15 = .ok (.invokevirtual 156, 3) := by decide +kernel
theorem dX10_gainOf_18 : decode cX10_gainOf 18 = .ok (.aload_n 0, 1) := by decide +kernel
theorem dX10_gainOf_19 : decode cX10_gainOf 19 = .ok (.iload_n 1, 1) := by decide +kernel
theorem dX10_gainOf_20 : decode cX10_gainOf 20 = .ok (.iload_n 2, 1) := by decide +kernel
theorem dX10_gainOf_21 : decode cX10_gainOf 21 = .ok (.iload_n 3, 1) := by decide +kernel
theorem dX10_gainOf_22 : decode cX10_gainOf 22 = .ok (.iload 5, 2) := by decide +kernel
theorem dX10_gainOf_24 : decode cX10_gainOf 24 = .ok (.invokevirtual 156, 3) := by decide +kernel
theorem dX10_gainOf_27 : decode cX10_gainOf 27 = .ok (.isub, 1) := by decide +kernel
theorem dX10_gainOf_28 : decode cX10_gainOf 28 = .ok (.ireturn, 1) := by decide +kernel
theorem dX10_gain_0 : decode cX10_gain 0 = .ok (.aload_n 0, 1) := by decide +kernel
theorem dX10_gain_1 : decode cX10_gain 1 = .ok (.iconst 0, 1) := by decide +kernel
theorem dX10_gain_2 : decode cX10_gain 2 = .ok (.putfield 107, 3) := by decide +kernel
theorem dX10_gain_5 : decode cX10_gain 5 = .ok (.aload_n 0, 1) := by decide +kernel
theorem dX10_gain_6 : decode cX10_gain 6 = .ok (.iload_n 1, 1) := by decide +kernel
theorem dX10_gain_7 : decode cX10_gain 7 = .ok (.iload_n 2, 1) := by decide +kernel
theorem dX10_gain_8 : decode cX10_gain 8 = .ok (.invokevirtual 123, 3) := by decide +kernel
theorem dX10_gain_11 : decode cX10_gain 11 = .ok (.ifCond .eq 26, 3) := by decide +kernel
theorem dX10_gain_14 : decode cX10_gain 14 = .ok (.iload_n 3, 1) := by decide +kernel
theorem dX10_gain_15 : decode cX10_gain 15 = .ok (.aload_n 0, 1) := by decide +kernel
theorem dX10_gain_16 : decode cX10_gain 16 = .ok (.getfield 97, 3) := by decide +kernel
theorem dX10_gain_19 : decode cX10_gain 19 = .ok (.invokestatic 119, 3) := by decide +kernel
theorem dX10_gain_22 : decode cX10_gain 22 = .ok (.ifCond .eq 15, 3) := by decide +kernel
theorem dX10_gain_25 : decode cX10_gain 25 = .ok (.iload 4, 2) := by decide +kernel
theorem dX10_gain_27 : decode cX10_gain 27 = .ok (.aload_n 0, 1) := by decide +kernel
theorem dX10_gain_28 : decode cX10_gain 28 = .ok (.getfield 110, 3) := by decide +kernel
theorem dX10_gain_31 : decode cX10_gain 31 = .ok (.invokestatic 119, 3) := by decide +kernel
theorem dX10_gain_34 : decode cX10_gain 34 = .ok (.ifCond .ne 9, 3) := by decide +kernel
theorem dX10_gain_37 : decode cX10_gain 37 = .ok (.aload_n 0, 1) := by decide +kernel
theorem dX10_gain_38 : decode cX10_gain 38 = .ok (.iconst 1, 1) := by decide +kernel
theorem dX10_gain_39 : decode cX10_gain 39 = .ok (.invokevirtual 147, 3) := by decide +kernel
theorem dX10_gain_42 : decode cX10_gain 42 = .ok (.ireturn, 1) := by decide +kernel
theorem dX10_gain_43 : decode cX10_gain 43 = .ok (.aload_n 0, 1) := by decide +kernel
theorem dX10_gain_44 : decode cX10_gain 44 = .ok (.iload_n 1, 1) := by decide +kernel
theorem dX10_gain_45 : decode cX10_gain 45 = .ok (.iload_n 2, 1) := by decide +kernel
theorem dX10_gain_46 : decode cX10_gain 46 = .ok (.iload_n 3, 1) := by decide +kernel
theorem dX10_gain_47 : decode cX10_gain 47 = .ok (.aload_n 0, 1) := by decide +kernel
theorem dX10_gain_48 : decode cX10_gain 48 = .ok (.iload_n 2, 1) := by decide +kernel
theorem dX10_gain_49 : decode cX10_gain 49 = .ok (.iload_n 3, 1) := by decide +kernel
theorem dX10_gain_50 : decode cX10_gain 50 = .ok (.iload 4, 2) := by decide +kernel
theorem dX10_gain_52 : decode cX10_gain 52 = .ok (.invokevirtual 153, 3) := by decide +kernel
theorem dX10_gain_55 : decode cX10_gain 55 = .ok (.invokevirtual 159, 3) := by decide +kernel
theorem dX10_gain_58 : decode cX10_gain 58 = .ok (.ireturn, 1) := by decide +kernel
theorem dX10_lie_0 : decode cX10_lie 0 = .ok (.iload_n 1, 1) := by decide +kernel
theorem dX10_lie_1 : decode cX10_lie 1 = .ok (.aload_n 0, 1) := by decide +kernel
theorem dX10_lie_2 : decode cX10_lie 2 = .ok (.getfield 116, 3) := by decide +kernel
theorem dX10_lie_5 : decode cX10_lie 5 = .ok (.invokestatic 119, 3) := by decide +kernel
theorem dX10_lie_8 : decode cX10_lie 8 = .ok (.ifCond .eq 11, 3) := by decide +kernel
theorem dX10_lie_11 : decode cX10_lie 11 = .ok (.iload_n 2, 1) := by decide +kernel
theorem dX10_lie_12 : decode cX10_lie 12 = .ok (.iconst 4, 1) := by decide +kernel
theorem dX10_lie_13 : decode cX10_lie 13 = .ok (.invokestatic 119, 3) := by decide +kernel
theorem dX10_lie_16 : decode cX10_lie 16 = .ok (.ifCond .ne 5, 3) := by decide +kernel
theorem dX10_lie_19 : decode cX10_lie 19 = .ok (.iconst (-1), 1) := by decide +kernel
theorem dX10_lie_20 : decode cX10_lie 20 = .ok (.ireturn, 1) := by decide +kernel
theorem dX10_lie_21 : decode cX10_lie 21 = .ok (.iconst 0, 1) := by decide +kernel
theorem dX10_lie_22 : decode cX10_lie 22 = .ok (.istore_n 3, 1) := by decide +kernel
theorem dX10_lie_23 : decode cX10_lie 23 = .ok (.iload_n 3, 1) := by decide +kernel
theorem dX10_lie_24 : decode cX10_lie 24 = .ok (.aload_n 0, 1) := by decide +kernel
theorem dX10_lie_25 : decode cX10_lie 25 = .ok (.getfield 113, 3) := by decide +kernel
theorem dX10_lie_28 : decode cX10_lie 28 = .ok (.if_icmp .ge 100, 3) := by decide +kernel
theorem dX10_lie_31 : decode cX10_lie 31 = .ok (.iconst 0, 1) := by decide +kernel
theorem dX10_lie_32 : decode cX10_lie 32 = .ok (.istore 4, 2) := by decide +kernel
theorem dX10_lie_34 : decode cX10_lie 34 = .ok (.iload 4, 2) := by decide +kernel
theorem dX10_lie_36 : decode cX10_lie 36 = .ok (.aload_n 0, 1) := by decide +kernel
theorem dX10_lie_37 : decode cX10_lie 37 = .ok (.getfield 97, 3) := by decide +kernel
theorem dX10_lie_40 : decode cX10_lie 40 = .ok (.if_icmp .ge 82, 3) := by decide +kernel
theorem dX10_lie_43 : decode cX10_lie 43 = .ok (.iconst 0, 1) := by decide +kernel
theorem dX10_lie_44 : decode cX10_lie 44 = .ok (.istore 5, 2) := by decide +kernel
theorem dX10_lie_46 : decode cX10_lie 46 = .ok (.iload 5, 2) := by decide +kernel
theorem dX10_lie_48 : decode cX10_lie 48 = .ok (.aload_n 0, 1) := by decide +kernel
theorem dX10_lie_49 : decode cX10_lie 49 = .ok (.getfield 110, 3) := by decide +kernel
theorem dX10_lie_52 : decode cX10_lie 52 = .ok (.if_icmp .ge 64, 3) := by decide +kernel
theorem dX10_lie_55 : decode cX10_lie 55 = .ok (.aload_n 0, 1) := by decide +kernel
theorem dX10_lie_56 : decode cX10_lie 56 = .ok (.iload_n 1, 1) := by decide +kernel
theorem dX10_lie_57 : decode cX10_lie 57 = .ok (.iload_n 3, 1) := by decide +kernel
theorem dX10_lie_58 : decode cX10_lie 58 = .ok (.iload 4, 2) := by decide +kernel
theorem dX10_lie_60 : decode cX10_lie 60 = .ok (.aload_n 0, 1) := by decide +kernel
theorem dX10_lie_61 : decode cX10_lie 61 = .ok (.iload_n 3, 1) := by decide +kernel
theorem dX10_lie_62 : decode cX10_lie 62 = .ok (.iload 4, 2) := by decide +kernel
theorem dX10_lie_64 : decode cX10_lie 64 = .ok (.iload 5, 2) := by decide +kernel
theorem dX10_lie_66 : decode cX10_lie 66 = .ok (.invokevirtual 153, 3) := by decide +kernel
theorem dX10_lie_69 : decode cX10_lie 69 = .ok (.invokevirtual 159, 3) := by decide +kernel
theorem dX10_lie_72 : decode cX10_lie 72 = .ok (.istore 6, 2) := by decide +kernel
theorem dX10_lie_74 : decode cX10_lie 74 = .ok (.iload 6, 2) := by decide +kernel
theorem dX10_lie_76 : decode cX10_lie 76 = .ok (.ifCond .le 34, 3) := by decide +kernel
theorem dX10_lie_79 : decode cX10_lie 79 = .ok (.iload_n 2, 1) := by decide +kernel
theorem dX10_lie_80 : decode cX10_lie 80 = .ok (.ifCond .ne 7, 3) := by decide +kernel
theorem dX10_lie_83 : decode cX10_lie 83 = .ok (.iload_n 3, 1) := by decide +kernel
theorem dX10_lie_84 : decode cX10_lie 84 = .ok (.goto 25, 3) := by decide +kernel
theorem dX10_lie_87 : decode cX10_lie 87 = .ok (.iload_n 2, 1) := by decide +kernel
theorem dX10_lie_88 : decode cX10_lie 88 = .ok (.iconst 1, 1) := by decide +kernel
theorem dX10_lie_89 : decode cX10_lie 89 = .ok (.if_icmp .ne 8, 3) := by decide +kernel
theorem dX10_lie_92 : decode cX10_lie 92 = .ok (.iload 4, 2) := by decide +kernel
theorem dX10_lie_94 : decode cX10_lie 94 = .ok (.goto 15, 3) := by decide +kernel
theorem dX10_lie_97 : decode cX10_lie 97 = .ok (.iload_n 2, 1) := by decide +kernel
theorem dX10_lie_98 : decode cX10_lie 98 = .ok (.iconst 2, 1) := by decide +kernel
theorem dX10_lie_99 : decode cX10_lie 99 = .ok (.if_icmp .ne 8, 3) := by decide +kernel
theorem dX10_lie_102 : decode cX10_lie 102 = .ok (.iload 5, 2) := by decide +kernel
theorem dX10_lie_104 : decode cX10_lie 104 = .ok (.goto 5, 3) := by decide +kernel
theorem dX10_lie_107 : decode cX10_lie 107 = .ok (.iload 6, 2) := by decide +kernel
theorem dX10_lie_109 : decode cX10_lie 109 = .ok (.ireturn, 1) := by decide +kernel
theorem dX10_lie_110 : decode cX10_lie 110 = .ok (.iinc 5 1, 3) := by decide +kernel
theorem dX10_lie_113 : decode cX10_lie 113 = .ok (.goto (-67), 3) := by decide +kernel
theorem dX10_lie_116 : decode cX10_lie 116 = .ok (.iinc 4 1, 3) := by decide +kernel
theorem dX10_lie_119 : decode cX10_lie 119 = .ok (.goto (-85), 3) := by decide +kernel
theorem dX10_lie_122 : decode cX10_lie 122 = .ok (.iinc 3 1, 3) := by decide +kernel
theorem dX10_lie_125 : decode cX10_lie 125 = .ok (.goto (-102), 3) := by decide +kernel
theorem dX10_lie_128 : decode cX10_lie 128 = .ok (.bipush (-2), 2) := by decide +kernel
theorem dX10_lie_130 : decode cX10_lie 130 = .ok (.ireturn, 1) := by decide +kernel
theorem dX10_lies_0 : decode cX10_lies 0 = .ok (.iload_n 1, 1) := by decide +kernel
theorem dX10_lies_1 : decode cX10_lies 1 = .ok (.aload_n 0, 1) := by decide +kernel
theorem dX10_lies_2 : decode cX10_lies 2 = .ok (.getfield 116, 3) := by decide +kernel
theorem dX10_lies_5 : decode cX10_lies 5 = .ok (.invokestatic 119, 3) := by decide +kernel
theorem dX10_lies_8 : decode cX10_lies 8 = .ok (.ifCond .ne 5, 3) := by decide +kernel
theorem dX10_lies_11 : decode cX10_lies 11 = .ok (.iconst (-1), 1) := by decide +kernel
theorem dX10_lies_12 : decode cX10_lies 12 = .ok (.ireturn, 1) := by decide +kernel
theorem dX10_lies_13 : decode cX10_lies 13 = .ok (.iconst 0, 1) := by decide +kernel
theorem dX10_lies_14 : decode cX10_lies 14 = .ok (.istore_n 2, 1) := by decide +kernel
theorem dX10_lies_15 : decode cX10_lies 15 = .ok (.iconst 0, 1) := by decide +kernel
theorem dX10_lies_16 : decode cX10_lies 16 = .ok (.istore_n 3, 1) := by decide +kernel
theorem dX10_lies_17 : decode cX10_lies 17 = .ok (.iload_n 3, 1) := by decide +kernel
theorem dX10_lies_18 : decode cX10_lies 18 = .ok (.aload_n 0, 1) := by decide +kernel
theorem dX10_lies_19 : decode cX10_lies 19 = .ok (.getfield 113, 3) := by decide +kernel
theorem dX10_lies_22 : decode cX10_lies 22 = .ok (.if_icmp .ge 73, 3) := by decide +kernel
theorem dX10_lies_25 : decode cX10_lies 25 = .ok (.iconst 0, 1) := by decide +kernel
theorem dX10_lies_26 : decode cX10_lies 26 = .ok (.istore 4, 2) := by decide +kernel
theorem dX10_lies_28 : decode cX10_lies 28 = .ok (.iload 4, 2) := by decide +kernel
theorem dX10_lies_30 : decode cX10_lies 30 = .ok (.aload_n 0, 1) := by decide +kernel
theorem dX10_lies_31 : decode cX10_lies 31 = .ok (.getfield 97, 3) := by decide +kernel
theorem dX10_lies_34 : decode cX10_lies 34 = .ok (.if_icmp .ge 55, 3) := by decide +kernel
theorem dX10_lies_37 : decode cX10_lies 37 = .ok (.iconst 0, 1) := by decide +kernel
theorem dX10_lies_38 : decode cX10_lies 38 = .ok (.istore 5, 2) := by decide +kernel
theorem dX10_lies_40 : decode cX10_lies 40 = .ok (.iload 5, 2) := by decide +kernel
theorem dX10_lies_42 : decode cX10_lies 42 = .ok (.aload_n 0, 1) := by decide +kernel
theorem dX10_lies_43 : decode cX10_lies 43 = .ok (.getfield 110, 3) := by decide +kernel
theorem dX10_lies_46 : decode cX10_lies 46 = .ok (.if_icmp .ge 37, 3) := by decide +kernel
theorem dX10_lies_49 : decode cX10_lies 49 = .ok (.iload_n 2, 1) := by decide +kernel
theorem dX10_lies_50 : decode cX10_lies 50 = .ok (.aload_n 0, 1) := by decide +kernel
theorem dX10_lies_51 : decode cX10_lies 51 = .ok (.iload_n 1, 1) := by decide +kernel
theorem dX10_lies_52 : decode cX10_lies 52 = .ok (.iload_n 3, 1) := by decide +kernel
theorem dX10_lies_53 : decode cX10_lies 53 = .ok (.iload 4, 2) := by decide +kernel
theorem dX10_lies_55 : decode cX10_lies 55 = .ok (.aload_n 0, 1) := by decide +kernel
theorem dX10_lies_56 : decode cX10_lies 56 = .ok (.iload_n 3, 1) := by decide +kernel
theorem dX10_lies_57 : decode cX10_lies 57 = .ok (.iload 4, 2) := by decide +kernel
theorem dX10_lies_59 : decode cX10_lies 59 = .ok (.iload 5, 2) := by decide +kernel
theorem dX10_lies_61 : decode cX10_lies 61 = .ok (.invokevirtual 153, 3) := by decide +kernel
theorem dX10_lies_64 : decode cX10_lies 64 = .ok (.invokevirtual 159, 3) := by decide +kernel
theorem dX10_lies_67 : decode cX10_lies 67 = .ok (.ifCond .le 7, 3) := by decide +kernel
theorem dX10_lies_70 : decode cX10_lies 70 = .ok (.iconst 1, 1) := by decide +kernel
theorem dX10_lies_71 : decode cX10_lies 71 = .ok (.goto 4, 3) := by decide +kernel
theorem dX10_lies_74 : decode cX10_lies 74 = .ok (.iconst 0, 1) := by decide +kernel
theorem dX10_lies_75 : decode cX10_lies 75 = .ok (.iadd, 1) := by decide +kernel
theorem dX10_lies_76 : decode cX10_lies 76 = .ok (.istore_n 2, 1) := by decide +kernel
theorem dX10_lies_77 : decode cX10_lies 77 = .ok (.iinc 5 1, 3) := by decide +kernel
theorem dX10_lies_80 : decode cX10_lies 80 = .ok (.goto (-40), 3) := by decide +kernel
theorem dX10_lies_83 : decode cX10_lies 83 = .ok (.iinc 4 1, 3) := by decide +kernel
theorem dX10_lies_86 : decode cX10_lies 86 = .ok (.goto (-58), 3) := by decide +kernel
theorem dX10_lies_89 : decode cX10_lies 89 = .ok (.iinc 3 1, 3) := by decide +kernel
theorem dX10_lies_92 : decode cX10_lies 92 = .ok (.goto (-75), 3) := by decide +kernel
theorem dX10_lies_95 : decode cX10_lies 95 = .ok (.iload_n 2, 1) := by decide +kernel
theorem dX10_lies_96 : decode cX10_lies 96 = .ok (.ireturn, 1) := by decide +kernel
theorem dX10_reckon_0 : decode cX10_reckon 0 = .ok (.iconst 0, 1) := by decide +kernel
theorem dX10_reckon_1 : decode cX10_reckon 1 = .ok (.istore_n 2, 1) := by decide +kernel
theorem dX10_reckon_2 : decode cX10_reckon 2 = .ok (.iload_n 2, 1) := by decide +kernel
theorem dX10_reckon_3 : decode cX10_reckon 3 = .ok (.aload_n 0, 1) := by decide +kernel
theorem dX10_reckon_4 : decode cX10_reckon 4 = .ok (.getfield 113, 3) := by decide +kernel
theorem dX10_reckon_7 : decode cX10_reckon 7 = .ok (.if_icmp .ge 54, 3) := by decide +kernel
theorem dX10_reckon_10 : decode cX10_reckon 10 = .ok (.aload_n 0, 1) := by decide +kernel
theorem dX10_reckon_11 : decode cX10_reckon 11 = .ok (.getfield 35, 3) := by decide +kernel
theorem dX10_reckon_14 : decode cX10_reckon 14 = .ok (.iload_n 2, 1) := by decide +kernel
theorem dX10_reckon_15 : decode cX10_reckon 15 = .ok (.aload_n 0, 1) := by decide +kernel
theorem dX10_reckon_16 : decode cX10_reckon 16 = .ok (.iload_n 1, 1) := by decide +kernel
theorem dX10_reckon_17 : decode cX10_reckon 17 = .ok (.iload_n 2, 1) := by decide +kernel
theorem dX10_reckon_18 : decode cX10_reckon 18 = .ok (.invokevirtual 144, 3) := by decide +kernel
theorem dX10_reckon_21 : decode cX10_reckon 21 = .ok (.iastore, 1) := by decide +kernel
theorem dX10_reckon_22 : decode cX10_reckon 22 = .ok (.iconst 0, 1) := by decide +kernel
theorem dX10_reckon_23 : decode cX10_reckon 23 = .ok (.istore_n 3, 1) := by decide +kernel
theorem dX10_reckon_24 : decode cX10_reckon 24 = .ok (.iload_n 3, 1) := by decide +kernel
theorem dX10_reckon_25 : decode cX10_reckon 25 = .ok (.aload_n 0, 1) := by decide +kernel
theorem dX10_reckon_26 : decode cX10_reckon 26 = .ok (.getfield 97, 3) := by decide +kernel
theorem dX10_reckon_29 : decode cX10_reckon 29 = .ok (.if_icmp .ge 26, 3) := by decide +kernel
theorem dX10_reckon_32 : decode cX10_reckon 32 = .ok (.aload_n 0, 1) := by decide +kernel
theorem dX10_reckon_33 : decode cX10_reckon 33 = .ok (.getfield 38, 3) := by decide +kernel
theorem dX10_reckon_36 : decode cX10_reckon 36 = .ok (.iconst 4, 1) := by decide +kernel
theorem dX10_reckon_37 : decode cX10_reckon 37 = .ok (.iload_n 2, 1) := by decide +kernel
theorem dX10_reckon_38 : decode cX10_reckon 38 = .ok (.imul, 1) := by decide +kernel
theorem dX10_reckon_39 : decode cX10_reckon 39 = .ok (.iload_n 3, 1) := by decide +kernel
theorem dX10_reckon_40 : decode cX10_reckon 40 = .ok (.iadd, 1) := by decide +kernel
theorem dX10_reckon_41 : decode cX10_reckon 41 = .ok (.aload_n 0, 1) := by decide +kernel
theorem dX10_reckon_42 : decode cX10_reckon 42 = .ok (.iload_n 1, 1) := by decide +kernel
theorem dX10_reckon_43 : decode cX10_reckon 43 = .ok (.iload_n 2, 1) := by decide +kernel
theorem dX10_reckon_44 : decode cX10_reckon 44 = .ok (.iload_n 3, 1) := by decide +kernel
theorem dX10_reckon_45 : decode cX10_reckon 45 = .ok (.invokevirtual 150, 3) := by decide +kernel
theorem dX10_reckon_48 : decode cX10_reckon 48 = .ok (.iastore, 1) := by decide +kernel
theorem dX10_reckon_49 : decode cX10_reckon 49 = .ok (.iinc 3 1, 3) := by decide +kernel
theorem dX10_reckon_52 : decode cX10_reckon 52 = .ok (.goto (-28), 3) := by decide +kernel
theorem dX10_reckon_55 : decode cX10_reckon 55 = .ok (.iinc 2 1, 3) := by decide +kernel
theorem dX10_reckon_58 : decode cX10_reckon 58 = .ok (.goto (-56), 3) := by decide +kernel
theorem dX10_reckon_61 : decode cX10_reckon 61 = .ok (.return_, 1) := by decide +kernel
theorem dX10_gains_0 : decode cX10_gains 0 = .ok (.iconst 1, 1) := by decide +kernel
theorem dX10_gains_1 : decode cX10_gains 1 = .ok (.istore 4, 2) := by decide +kernel
theorem dX10_gains_3 : decode cX10_gains 3 = .ok (.iconst 0, 1) := by decide +kernel
theorem dX10_gains_4 : decode cX10_gains 4 = .ok (.istore 5, 2) := by decide +kernel
theorem dX10_gains_6 : decode cX10_gains 6 = .ok (.iload 5, 2) := by decide +kernel
theorem dX10_gains_8 : decode cX10_gains 8 = .ok (.aload_n 0, 1) := by decide +kernel
theorem dX10_gains_9 : decode cX10_gains 9 = .ok (.getfield 97, 3) := by decide +kernel
theorem dX10_gains_12 : decode cX10_gains 12 = .ok (.if_icmp .ge 123, 3) := by decide +kernel
theorem dX10_gains_15 : decode cX10_gains 15 = .ok (.iload 4, 2) := by decide +kernel
theorem dX10_gains_17 : decode cX10_gains 17 = .ok (.ifCond .eq 118, 3) := by decide +kernel
theorem dX10_gains_20 : decode cX10_gains 20 = .ok (.iload_n 1, 1) := by decide +kernel
theorem dX10_gains_21 : decode cX10_gains 21 = .ok (.iload 5, 2) := by decide +kernel
theorem dX10_gains_23 : decode cX10_gains 23 = .ok (.ishr, 1) := by decide +kernel
theorem dX10_gains_24 : decode cX10_gains 24 = .ok (.iconst 1, 1) := by decide +kernel
theorem dX10_gains_25 : decode cX10_gains 25 = .ok (.iand, 1) := by decide +kernel
theorem dX10_gains_26 : decode cX10_gains 26 = .ok (.ifCond .ne 30, 3) := by decide +kernel
theorem dX10_gains_29 : decode cX10_gains 29 = .ok (.aload_n 0, 1) := by decide +kernel
theorem dX10_gains_30 : decode cX10_gains 30 = .ok (.iload_n 2, 1) := by decide +kernel
theorem dX10_gains_31 : decode cX10_gains 31 = .ok (.iload 5, 2) := by decide +kernel
theorem dX10_gains_33 : decode cX10_gains 33 = .ok (.invokevirtual 126, 3) := by decide +kernel
theorem dX10_gains_36 : decode cX10_gains 36 = .ok (.aload_n 0, 1) := by decide +kernel
theorem dX10_gains_37 : decode cX10_gains 37 = .ok (.iload_n 3, 1) := by decide +kernel
theorem dX10_gains_38 : decode cX10_gains 38 = .ok (.iload 5, 2) := by decide +kernel
theorem dX10_gains_40 : decode cX10_gains 40 = .ok (.invokevirtual 126, 3) := by decide +kernel
theorem dX10_gains_43 : decode cX10_gains 43 = .ok (.if_icmp .ne 7, 3) := by decide +kernel
theorem dX10_gains_46 : decode cX10_gains 46 = .ok (.iconst 1, 1) := by decide +kernel
theorem dX10_gains_47 : decode cX10_gains 47 = .ok (.goto 4, 3) := by decide +kernel
theorem dX10_gains_50 : decode cX10_gains 50 = .ok (.iconst 0, 1) := by decide +kernel
theorem dX10_gains_51 : decode cX10_gains 51 = .ok (.istore 4, 2) := by decide +kernel
theorem dX10_gains_53 : decode cX10_gains 53 = .ok (.goto 76, 3) := by decide +kernel
theorem dX10_gains_56 : decode cX10_gains 56 = .ok (.iconst 5, 1) := by decide +kernel
theorem dX10_gains_57 : decode cX10_gains 57 = .ok (.aload_n 0, 1) := by decide +kernel
theorem dX10_gains_58 : decode cX10_gains 58 = .ok (.iload_n 2, 1) := by decide +kernel
theorem dX10_gains_59 : decode cX10_gains 59 = .ok (.iload 5, 2) := by decide +kernel
theorem dX10_gains_61 : decode cX10_gains 61 = .ok (.invokevirtual 126, 3) := by decide +kernel
theorem dX10_gains_64 : decode cX10_gains 64 = .ok (.imul, 1) := by decide +kernel
theorem dX10_gains_65 : decode cX10_gains 65 = .ok (.istore 6, 2) := by decide +kernel
theorem dX10_gains_67 : decode cX10_gains 67 = .ok (.aload_n 0, 1) := by decide +kernel
theorem dX10_gains_68 : decode cX10_gains 68 = .ok (.getfield 9, 3) := by decide +kernel
theorem dX10_gains_71 : decode cX10_gains 71 = .ok (.iload 6, 2) := by decide +kernel
theorem dX10_gains_73 : decode cX10_gains 73 = .ok (.aload_n 0, 1) := by decide +kernel
theorem dX10_gains_74 : decode cX10_gains 74 = .ok (.getfield 35, 3) := by decide +kernel
theorem dX10_gains_77 : decode cX10_gains 77 = .ok (.iload_n 3, 1) := by decide +kernel
theorem dX10_gains_78 : decode cX10_gains 78 = .ok (.iaload, 1) := by decide +kernel
theorem dX10_gains_79 : decode cX10_gains 79 = .ok (.iadd, 1) := by decide +kernel
theorem dX10_gains_80 : decode cX10_gains 80 = .ok (.iaload, 1) := by decide +kernel
theorem dX10_gains_81 : decode cX10_gains 81 = .ok (.aload_n 0, 1) := by decide +kernel
theorem dX10_gains_82 : decode cX10_gains 82 = .ok (.getfield 38, 3) := by decide +kernel
theorem dX10_gains_85 : decode cX10_gains 85 = .ok (.iconst 4, 1) := by decide +kernel
theorem dX10_gains_86 : decode cX10_gains 86 = .ok (.iload_n 3, 1) := by decide +kernel
theorem dX10_gains_87 : decode cX10_gains 87 = .ok (.imul, 1) := by decide +kernel
theorem dX10_gains_88 : decode cX10_gains 88 = .ok (.iload 5, 2) := by decide +kernel
theorem dX10_gains_90 : decode cX10_gains 90 = .ok (.iadd, 1) := by decide +kernel
theorem dX10_gains_91 : decode cX10_gains 91 = .ok (.iaload, 1) := by decide +kernel
theorem dX10_gains_92 : decode cX10_gains 92 = .ok (.isub, 1) := by decide +kernel
theorem dX10_gains_93 : decode cX10_gains 93 = .ok (.aload_n 0, 1) := by decide +kernel
theorem dX10_gains_94 : decode cX10_gains 94 = .ok (.getfield 9, 3) := by decide +kernel
theorem dX10_gains_97 : decode cX10_gains 97 = .ok (.iload 6, 2) := by decide +kernel
theorem dX10_gains_99 : decode cX10_gains 99 = .ok (.aload_n 0, 1) := by decide +kernel
theorem dX10_gains_100 : decode cX10_gains 100 = .ok (.getfield 35, 3) := by decide +kernel
theorem dX10_gains_103 : decode cX10_gains 103 = .ok (.iload_n 2, 1) := by decide +kernel
theorem dX10_gains_104 : decode cX10_gains 104 = .ok (.iaload, 1) := by decide +kernel
theorem dX10_gains_105 : decode cX10_gains 105 = .ok (.iadd, 1) := by decide +kernel
theorem dX10_gains_106 : decode cX10_gains 106 = .ok (.iaload, 1) := by decide +kernel
theorem dX10_gains_107 : decode cX10_gains 107 = .ok (.aload_n 0, 1) := by decide +kernel
theorem dX10_gains_108 : decode cX10_gains 108 = .ok (.getfield 38, 3) := by decide +kernel
theorem dX10_gains_111 : decode cX10_gains 111 = .ok (.iconst 4, 1) := by decide +kernel
theorem dX10_gains_112 : decode cX10_gains 112 = .ok (.iload_n 2, 1) := by decide +kernel
theorem dX10_gains_113 : decode cX10_gains 113 = .ok (.imul, 1) := by decide +kernel
theorem dX10_gains_114 : decode cX10_gains 114 = .ok (.iload 5, 2) := by decide +kernel
theorem dX10_gains_116 : decode cX10_gains 116 = .ok (.iadd, 1) := by decide +kernel
theorem dX10_gains_117 : decode cX10_gains 117 = .ok (.iaload, 1) := by decide +kernel
theorem dX10_gains_118 : decode cX10_gains 118 = .ok (.isub, 1) := by decide +kernel
theorem dX10_gains_119 : decode cX10_gains 119 = .ok (.if_icmp .le 7, 3) := by decide +kernel
theorem dX10_gains_122 : decode cX10_gains 122 = .ok (.iconst 1, 1) := by decide +kernel
theorem dX10_gains_123 : decode cX10_gains 123 = .ok (.goto 4, 3) := by decide +kernel
theorem dX10_gains_126 : decode cX10_gains 126 = .ok (.iconst 0, 1) := by decide +kernel
theorem dX10_gains_127 : decode cX10_gains 127 = .ok (.istore 4, 2) := by decide +kernel
theorem dX10_gains_129 : decode cX10_gains 129 = .ok (.iinc 5 1, 3) := by decide +kernel
theorem dX10_gains_132 : decode cX10_gains 132 = .ok (.goto (-126), 3) := by decide +kernel
theorem dX10_gains_135 : decode cX10_gains 135 = .ok (.iload 4, 2) := by decide +kernel
theorem dX10_gains_137 : decode cX10_gains 137 = .ok (.ireturn, 1) := by decide +kernel
theorem dX10_heap_0 : decode cX10_heap 0 = .ok (.iload_n 1, 1) := by decide +kernel
theorem dX10_heap_1 : decode cX10_heap 1 = .ok (.aload_n 0, 1) := by decide +kernel
theorem dX10_heap_2 : decode cX10_heap 2 = .ok (.getfield 116, 3) := by decide +kernel
theorem dX10_heap_5 : decode cX10_heap 5 = .ok (.invokestatic 119, 3) := by decide +kernel
theorem dX10_heap_8 : decode cX10_heap 8 = .ok (.ifCond .eq 18, 3) := by decide +kernel
theorem dX10_heap_11 : decode cX10_heap 11 = .ok (.iload_n 2, 1) := by decide +kernel
theorem dX10_heap_12 : decode cX10_heap 12 = .ok (.iconst 1, 1) := by decide +kernel
theorem dX10_heap_13 : decode cX10_heap 13 = .ok (.if_icmp .lt 13, 3) := by decide +kernel
theorem dX10_heap_16 : decode cX10_heap 16 = .ok (.iload_n 2, 1) := by decide +kernel
theorem dX10_heap_17 : decode cX10_heap 17 = .ok (.iconst 1, 1) := by decide +kernel
theorem dX10_heap_18 : decode cX10_heap 18 = .ok (.aload_n 0, 1) := by decide +kernel
theorem dX10_heap_19 : decode cX10_heap 19 = .ok (.getfield 97, 3) := by decide +kernel
theorem dX10_heap_22 : decode cX10_heap 22 = .ok (.ishl, 1) := by decide +kernel
theorem dX10_heap_23 : decode cX10_heap 23 = .ok (.if_icmp .lt 5, 3) := by decide +kernel
theorem dX10_heap_26 : decode cX10_heap 26 = .ok (.iconst (-1), 1) := by decide +kernel
theorem dX10_heap_27 : decode cX10_heap 27 = .ok (.ireturn, 1) := by decide +kernel
theorem dX10_heap_28 : decode cX10_heap 28 = .ok (.aload_n 0, 1) := by decide +kernel
theorem dX10_heap_29 : decode cX10_heap 29 = .ok (.iload_n 1, 1) := by decide +kernel
theorem dX10_heap_30 : decode cX10_heap 30 = .ok (.invokevirtual 162, 3) := by decide +kernel
theorem dX10_heap_33 : decode cX10_heap 33 = .ok (.iconst 0, 1) := by decide +kernel
theorem dX10_heap_34 : decode cX10_heap 34 = .ok (.istore 4, 2) := by decide +kernel
theorem dX10_heap_36 : decode cX10_heap 36 = .ok (.iload 4, 2) := by decide +kernel
theorem dX10_heap_38 : decode cX10_heap 38 = .ok (.aload_n 0, 1) := by decide +kernel
theorem dX10_heap_39 : decode cX10_heap 39 = .ok (.getfield 113, 3) := by decide +kernel
theorem dX10_heap_42 : decode cX10_heap 42 = .ok (.if_icmp .ge 51, 3) := by decide +kernel
theorem dX10_heap_45 : decode cX10_heap 45 = .ok (.iconst 0, 1) := by decide +kernel
theorem dX10_heap_46 : decode cX10_heap 46 = .ok (.istore 5, 2) := by decide +kernel
theorem dX10_heap_48 : decode cX10_heap 48 = .ok (.iload 5, 2) := by decide +kernel
theorem dX10_heap_50 : decode cX10_heap 50 = .ok (.aload_n 0, 1) := by decide +kernel
theorem dX10_heap_51 : decode cX10_heap 51 = .ok (.getfield 113, 3) := by decide +kernel
theorem dX10_heap_54 : decode cX10_heap 54 = .ok (.if_icmp .ge 33, 3) := by decide +kernel
theorem dX10_heap_57 : decode cX10_heap 57 = .ok (.aload_n 0, 1) := by decide +kernel
theorem dX10_heap_58 : decode cX10_heap 58 = .ok (.iload_n 2, 1) := by decide +kernel
theorem dX10_heap_59 : decode cX10_heap 59 = .ok (.iload 4, 2) := by decide +kernel
theorem dX10_heap_61 : decode cX10_heap 61 = .ok (.iload 5, 2) := by decide +kernel
theorem dX10_heap_63 : decode cX10_heap 63 = .ok (.invokevirtual 166, 3) := by decide +kernel
theorem dX10_heap_66 : decode cX10_heap 66 = .ok (.ifCond .eq 15, 3) := by decide +kernel
theorem dX10_heap_69 : decode cX10_heap 69 = .ok (.iload_n 3, 1) := by decide +kernel
theorem dX10_heap_70 : decode cX10_heap 70 = .ok (.ifCond .eq 8, 3) := by decide +kernel
theorem dX10_heap_73 : decode cX10_heap 73 = .ok (.iload 5, 2) := by decide +kernel
theorem dX10_heap_75 : decode cX10_heap 75 = .ok (.goto 5, 3) := by decide +kernel
theorem dX10_heap_78 : decode cX10_heap 78 = .ok (.iload 4, 2) := by decide +kernel
theorem dX10_heap_80 : decode cX10_heap 80 = .ok (.ireturn, 1) := by decide +kernel
theorem dX10_heap_81 : decode cX10_heap 81 = .ok (.iinc 5 1, 3) := by decide +kernel
theorem dX10_heap_84 : decode cX10_heap 84 = .ok (.goto (-36), 3) := by decide +kernel
theorem dX10_heap_87 : decode cX10_heap 87 = .ok (.iinc 4 1, 3) := by decide +kernel
theorem dX10_heap_90 : decode cX10_heap 90 = .ok (.goto (-54), 3) := by decide +kernel
theorem dX10_heap_93 : decode cX10_heap 93 = .ok (.bipush (-2), 2) := by decide +kernel
theorem dX10_heap_95 : decode cX10_heap 95 = .ok (.ireturn, 1) := by decide +kernel
theorem dX10_onto_0 : decode cX10_onto 0 = .ok (.iload_n 1, 1) := by decide +kernel
theorem dX10_onto_1 : decode cX10_onto 1 = .ok (.aload_n 0, 1) := by decide +kernel
theorem dX10_onto_2 : decode cX10_onto 2 = .ok (.getfield 116, 3) := by decide +kernel
theorem dX10_onto_5 : decode cX10_onto 5 = .ok (.invokestatic 119, 3) := by decide +kernel
theorem dX10_onto_8 : decode cX10_onto 8 = .ok (.ifCond .ne 5, 3) := by decide +kernel
theorem dX10_onto_11 : decode cX10_onto 11 = .ok (.iconst (-1), 1) := by decide +kernel
theorem dX10_onto_12 : decode cX10_onto 12 = .ok (.ireturn, 1) := by decide +kernel
theorem dX10_onto_13 : decode cX10_onto 13 = .ok (.iconst 0, 1) := by decide +kernel
theorem dX10_onto_14 : decode cX10_onto 14 = .ok (.istore_n 2, 1) := by decide +kernel
theorem dX10_onto_15 : decode cX10_onto 15 = .ok (.iconst 0, 1) := by decide +kernel
theorem dX10_onto_16 : decode cX10_onto 16 = .ok (.istore_n 3, 1) := by decide +kernel
theorem dX10_onto_17 : decode cX10_onto 17 = .ok (.iload_n 3, 1) := by decide +kernel
theorem dX10_onto_18 : decode cX10_onto 18 = .ok (.aload_n 0, 1) := by decide +kernel
theorem dX10_onto_19 : decode cX10_onto 19 = .ok (.getfield 113, 3) := by decide +kernel
theorem dX10_onto_22 : decode cX10_onto 22 = .ok (.if_icmp .ge 20, 3) := by decide +kernel
theorem dX10_onto_25 : decode cX10_onto 25 = .ok (.iload_n 2, 1) := by decide +kernel
theorem dX10_onto_26 : decode cX10_onto 26 = .ok (.iconst 1, 1) := by decide +kernel
theorem dX10_onto_27 : decode cX10_onto 27 = .ok (.aload_n 0, 1) := by decide +kernel
theorem dX10_onto_28 : decode cX10_onto 28 = .ok (.iload_n 1, 1) := by decide +kernel
theorem dX10_onto_29 : decode cX10_onto 29 = .ok (.iload_n 3, 1) := by decide +kernel
theorem dX10_onto_30 : decode cX10_onto 30 = .ok (.invokevirtual 144, 3) := by decide +kernel
theorem dX10_onto_33 : decode cX10_onto 33 = .ok (.ishl, 1) := by decide +kernel
theorem dX10_onto_34 : decode cX10_onto 34 = .ok (.ior, 1) := by decide +kernel
theorem dX10_onto_35 : decode cX10_onto 35 = .ok (.istore_n 2, 1) := by decide +kernel
theorem dX10_onto_36 : decode cX10_onto 36 = .ok (.iinc 3 1, 3) := by decide +kernel
theorem dX10_onto_39 : decode cX10_onto 39 = .ok (.goto (-22), 3) := by decide +kernel
theorem dX10_onto_42 : decode cX10_onto 42 = .ok (.iconst 0, 1) := by decide +kernel
theorem dX10_onto_43 : decode cX10_onto 43 = .ok (.istore_n 3, 1) := by decide +kernel
theorem dX10_onto_44 : decode cX10_onto 44 = .ok (.iconst 0, 1) := by decide +kernel
theorem dX10_onto_45 : decode cX10_onto 45 = .ok (.istore 4, 2) := by decide +kernel
theorem dX10_onto_47 : decode cX10_onto 47 = .ok (.iload 4, 2) := by decide +kernel
theorem dX10_onto_49 : decode cX10_onto 49 = .ok (.aload_n 0, 1) := by decide +kernel
theorem dX10_onto_50 : decode cX10_onto 50 = .ok (.getfield 101, 3) := by decide +kernel
theorem dX10_onto_53 : decode cX10_onto 53 = .ok (.if_icmp .ge 18, 3) := by decide +kernel
theorem dX10_onto_56 : decode cX10_onto 56 = .ok (.iload_n 3, 1) := by decide +kernel
theorem dX10_onto_57 : decode cX10_onto 57 = .ok (.iload_n 2, 1) := by decide +kernel
theorem dX10_onto_58 : decode cX10_onto 58 = .ok (.iload 4, 2) := by decide +kernel
theorem dX10_onto_60 : decode cX10_onto 60 = .ok (.ishr, 1) := by decide +kernel
theorem dX10_onto_61 : decode cX10_onto 61 = .ok (.iconst 1, 1) := by decide +kernel
theorem dX10_onto_62 : decode cX10_onto 62 = .ok (.iand, 1) := by decide +kernel
theorem dX10_onto_63 : decode cX10_onto 63 = .ok (.iadd, 1) := by decide +kernel
theorem dX10_onto_64 : decode cX10_onto 64 = .ok (.istore_n 3, 1) := by decide +kernel
theorem dX10_onto_65 : decode cX10_onto 65 = .ok (.iinc 4 1, 3) := by decide +kernel
theorem dX10_onto_68 : decode cX10_onto 68 = .ok (.goto (-21), 3) := by decide +kernel
theorem dX10_onto_71 : decode cX10_onto 71 = .ok (.iload_n 3, 1) := by decide +kernel
theorem dX10_onto_72 : decode cX10_onto 72 = .ok (.ireturn, 1) := by decide +kernel
theorem dX10_dictator_0 : decode cX10_dictator 0 = .ok (.iload_n 1, 1) := by decide +kernel
theorem dX10_dictator_1 : decode cX10_dictator 1 = .ok (.aload_n 0, 1) := by decide +kernel
theorem dX10_dictator_2 : decode cX10_dictator 2 = .ok (.getfield 116, 3) := by decide +kernel
theorem dX10_dictator_5 : decode cX10_dictator 5 = .ok (.invokestatic 119, 3) := by decide +kernel
theorem dX10_dictator_8 : decode cX10_dictator 8 = .ok (.ifCond .ne 5, 3) := by decide +kernel
theorem dX10_dictator_11 : decode cX10_dictator 11 = .ok (.iconst (-1), 1) := by decide +kernel
theorem dX10_dictator_12 : decode cX10_dictator 12 = .ok (.ireturn, 1) := by decide +kernel
theorem dX10_dictator_13 : decode cX10_dictator 13 = .ok (.iconst 0, 1) := by decide +kernel
theorem dX10_dictator_14 : decode cX10_dictator 14 = .ok (.istore_n 2, 1) := by decide +kernel
theorem dX10_dictator_15 : decode cX10_dictator 15 = .ok (.iload_n 2, 1) := by decide +kernel
theorem dX10_dictator_16 : decode cX10_dictator 16 = .ok (.aload_n 0, 1) := by decide +kernel
theorem dX10_dictator_17 : decode cX10_dictator 17 = .ok (.getfield 97, 3) := by decide +kernel
theorem dX10_dictator_20 : decode cX10_dictator 20 = .ok (.if_icmp .ge 66, 3) := by decide +kernel
theorem dX10_dictator_23 : decode cX10_dictator 23 = .ok (.iconst 1, 1) := by decide +kernel
theorem dX10_dictator_24 : decode cX10_dictator 24 = .ok (.istore_n 3, 1) := by decide +kernel
theorem dX10_dictator_25 : decode cX10_dictator 25 = .ok (.iconst 0, 1) := by decide +kernel
theorem dX10_dictator_26 : decode cX10_dictator 26 = .ok (.istore 4, 2) := by decide +kernel
theorem dX10_dictator_28 : decode cX10_dictator 28 = .ok (.iload 4, 2) := by decide +kernel
theorem dX10_dictator_30 : decode cX10_dictator 30 = .ok (.aload_n 0, 1) := by decide +kernel
theorem dX10_dictator_31 : decode cX10_dictator 31 = .ok (.getfield 113, 3) := by decide +kernel
theorem dX10_dictator_34 : decode cX10_dictator 34 = .ok (.if_icmp .ge 40, 3) := by decide +kernel
theorem dX10_dictator_37 : decode cX10_dictator 37 = .ok (.iload_n 3, 1) := by decide +kernel
theorem dX10_dictator_38 : decode cX10_dictator 38 = .ok (.ifCond .eq 36, 3) := by decide +kernel
theorem dX10_dictator_41 : decode cX10_dictator 41 = .ok (.aload_n 0, 1) := by decide +kernel
theorem dX10_dictator_42 : decode cX10_dictator 42 = .ok (.iload_n 1, 1) := by decide +kernel
theorem dX10_dictator_43 : decode cX10_dictator 43 = .ok (.iload 4, 2) := by decide +kernel
theorem dX10_dictator_45 : decode cX10_dictator 45 = .ok (.invokevirtual 144, 3) := by decide +kernel
theorem dX10_dictator_48 : decode cX10_dictator 48 = .ok (.aload_n 0, 1) := by decide +kernel
theorem dX10_dictator_49 : decode cX10_dictator 49 = .ok (.aload_n 0, 1) := by decide +kernel
theorem dX10_dictator_50 : decode cX10_dictator 50 = .ok (.iload 4, 2) := by decide +kernel
theorem dX10_dictator_52 : decode cX10_dictator 52 = .ok (.iload_n 2, 1) := by decide +kernel
theorem dX10_dictator_53 : decode cX10_dictator 53 = .ok (.invokevirtual 126, 3) := by decide +kernel
theorem dX10_dictator_56 : decode cX10_dictator 56 = .ok (.invokevirtual 133, 3) := by decide +kernel
theorem dX10_dictator_59 : decode cX10_dictator 59 = .ok (.if_icmp .ne 7, 3) := by decide +kernel
theorem dX10_dictator_62 : decode cX10_dictator 62 = .ok (.iconst 1, 1) := by decide +kernel
theorem dX10_dictator_63 : decode cX10_dictator 63 = .ok (.goto 4, 3) := by decide +kernel
theorem dX10_dictator_66 : decode cX10_dictator 66 = .ok (.iconst 0, 1) := by decide +kernel
theorem dX10_dictator_67 : decode cX10_dictator 67 = .ok (.istore_n 3, 1) := by decide +kernel
theorem dX10_dictator_68 : decode cX10_dictator 68 = .ok (.iinc 4 1, 3) := by decide +kernel
theorem dX10_dictator_71 : decode cX10_dictator 71 = .ok (.goto (-43), 3) := by decide +kernel
theorem dX10_dictator_74 : decode cX10_dictator 74 = .ok (.iload_n 3, 1) := by decide +kernel
theorem dX10_dictator_75 : decode cX10_dictator 75 = .ok (.ifCond .eq 5, 3) := by decide +kernel
theorem dX10_dictator_78 : decode cX10_dictator 78 = .ok (.iload_n 2, 1) := by decide +kernel
theorem dX10_dictator_79 : decode cX10_dictator 79 = .ok (.ireturn, 1) := by decide +kernel
theorem dX10_dictator_80 : decode cX10_dictator 80 = .ok (.iinc 2 1, 3) := by decide +kernel
theorem dX10_dictator_83 : decode cX10_dictator 83 = .ok (.goto (-68), 3) := by decide +kernel
theorem dX10_dictator_86 : decode cX10_dictator 86 = .ok (.bipush (-2), 2) := by decide +kernel
theorem dX10_dictator_88 : decode cX10_dictator 88 = .ok (.ireturn, 1) := by decide +kernel
theorem dX10_budget_0 : decode cX10_budget 0 = .ok (.aload_n 0, 1) := by decide +kernel
theorem dX10_budget_1 : decode cX10_budget 1 = .ok (.iconst 0, 1) := by decide +kernel
theorem dX10_budget_2 : decode cX10_budget 2 = .ok (.putfield 107, 3) := by decide +kernel
theorem dX10_budget_5 : decode cX10_budget 5 = .ok (.iload_n 1, 1) := by decide +kernel
theorem dX10_budget_6 : decode cX10_budget 6 = .ok (.aload_n 0, 1) := by decide +kernel
theorem dX10_budget_7 : decode cX10_budget 7 = .ok (.getfield 116, 3) := by decide +kernel
theorem dX10_budget_10 : decode cX10_budget 10 = .ok (.invokestatic 119, 3) := by decide +kernel
theorem dX10_budget_13 : decode cX10_budget 13 = .ok (.ifCond .ne 10, 3) := by decide +kernel
theorem dX10_budget_16 : decode cX10_budget 16 = .ok (.aload_n 0, 1) := by decide +kernel
theorem dX10_budget_17 : decode cX10_budget 17 = .ok (.iconst 1, 1) := by decide +kernel
theorem dX10_budget_18 : decode cX10_budget 18 = .ok (.invokevirtual 147, 3) := by decide +kernel
theorem dX10_budget_21 : decode cX10_budget 21 = .ok (.i2l, 1) := by decide +kernel
theorem dX10_budget_22 : decode cX10_budget 22 = .ok (.lreturn, 1) := by decide +kernel
theorem dX10_budget_23 : decode cX10_budget 23 = .ok (.lconst 0, 1) := by decide +kernel
theorem dX10_budget_24 : decode cX10_budget 24 = .ok (.lstore_n 3, 1) := by decide +kernel
theorem dX10_budget_25 : decode cX10_budget 25 = .ok (.iconst 0, 1) := by decide +kernel
theorem dX10_budget_26 : decode cX10_budget 26 = .ok (.istore 5, 2) := by decide +kernel
theorem dX10_budget_28 : decode cX10_budget 28 = .ok (.iload 5, 2) := by decide +kernel
theorem dX10_budget_30 : decode cX10_budget 30 = .ok (.aload_n 0, 1) := by decide +kernel
theorem dX10_budget_31 : decode cX10_budget 31 = .ok (.getfield 113, 3) := by decide +kernel
theorem dX10_budget_34 : decode cX10_budget 34 = .ok (.if_icmp .ge 78, 3) := by decide +kernel
theorem dX10_budget_37 : decode cX10_budget 37 = .ok (.lconst 0, 1) := by decide +kernel
theorem dX10_budget_38 : decode cX10_budget 38 = .ok (.lstore 6, 2) := by decide +kernel
theorem dX10_budget_40 : decode cX10_budget 40 = .ok (.iconst 0, 1) := by decide +kernel
theorem dX10_budget_41 : decode cX10_budget 41 = .ok (.istore 8, 2) := by decide +kernel
theorem dX10_budget_43 : decode cX10_budget 43 = .ok (.iload 8, 2) := by decide +kernel
theorem dX10_budget_45 : decode cX10_budget 45 = .ok (.aload_n 0, 1) := by decide +kernel
theorem dX10_budget_46 : decode cX10_budget 46 = .ok (.getfield 97, 3) := by decide +kernel
theorem dX10_budget_49 : decode cX10_budget 49 = .ok (.if_icmp .ge 24, 3) := by decide +kernel
theorem dX10_budget_52 : decode cX10_budget 52 = .ok (.lload 6, 2) := by decide +kernel
theorem dX10_budget_54 : decode cX10_budget 54 = .ok (.aload_n 0, 1) := by decide +kernel
theorem dX10_budget_55 : decode cX10_budget 55 = .ok (.iload_n 1, 1) := by decide +kernel
theorem dX10_budget_56 : decode cX10_budget 56 = .ok (.iload 5, 2) := by decide +kernel
theorem dX10_budget_58 : decode cX10_budget 58 = .ok (.iload 8, 2) := by decide +kernel
theorem dX10_budget_60 : decode cX10_budget 60 = .ok (.invokevirtual 150, 3) := by decide +kernel
theorem dX10_budget_63 : decode cX10_budget 63 = .ok (.i2l, 1) := by decide +kernel
theorem dX10_budget_64 : decode cX10_budget 64 = .ok (.ladd, 1) := by decide +kernel
theorem dX10_budget_65 : decode cX10_budget 65 = .ok (.lstore 6, 2) := by decide +kernel
theorem dX10_budget_67 : decode cX10_budget 67 = .ok (.iinc 8 1, 3) := by decide +kernel
theorem dX10_budget_70 : decode cX10_budget 70 = .ok (.goto (-27), 3) := by decide +kernel
theorem dX10_budget_73 : decode cX10_budget 73 = .ok (.iload 5, 2) := by decide +kernel
theorem dX10_budget_75 : decode cX10_budget 75 = .ok (.ifCond .eq 24, 3) := by decide +kernel
theorem dX10_budget_78 : decode cX10_budget 78 = .ok (.iload_n 2, 1) := by decide +kernel
theorem dX10_budget_79 : decode cX10_budget 79 = .ok (.ifCond .eq 13, 3) := by decide +kernel
theorem dX10_budget_82 : decode cX10_budget 82 = .ok (.lload 6, 2) := by decide +kernel
theorem dX10_budget_84 : decode cX10_budget 84 = .ok (.lload_n 3, 1) := by decide +kernel
theorem dX10_budget_85 : decode cX10_budget 85 = .ok (.lcmp, 1) := by decide +kernel
theorem dX10_budget_86 : decode cX10_budget 86 = .ok (.ifCond .le 18, 3) := by decide +kernel
theorem dX10_budget_89 : decode cX10_budget 89 = .ok (.goto 10, 3) := by decide +kernel
theorem dX10_budget_92 : decode cX10_budget 92 = .ok (.lload 6, 2) := by decide +kernel
theorem dX10_budget_94 : decode cX10_budget 94 = .ok (.lload_n 3, 1) := by decide +kernel
theorem dX10_budget_95 : decode cX10_budget 95 = .ok (.lcmp, 1) := by decide +kernel
theorem dX10_budget_96 : decode cX10_budget 96 = .ok (.ifCond .ge 8, 3) := by decide +kernel
theorem dX10_budget_99 : decode cX10_budget 99 = .ok (.lload 6, 2) := by decide +kernel
theorem dX10_budget_101 : decode cX10_budget 101 = .ok (.goto 4, 3) := by decide +kernel
theorem dX10_budget_104 : decode cX10_budget 104 = .ok (.lload_n 3, 1) := by decide +kernel
theorem dX10_budget_105 : decode cX10_budget 105 = .ok (.lstore_n 3, 1) := by decide +kernel
theorem dX10_budget_106 : decode cX10_budget 106 = .ok (.iinc 5 1, 3) := by decide +kernel
theorem dX10_budget_109 : decode cX10_budget 109 = .ok (.goto (-81), 3) := by decide +kernel
theorem dX10_budget_112 : decode cX10_budget 112 = .ok (.lload_n 3, 1) := by decide +kernel
theorem dX10_budget_113 : decode cX10_budget 113 = .ok (.lreturn, 1) := by decide +kernel
theorem dX10_welfare_0 : decode cX10_welfare 0 = .ok (.aload_n 0, 1) := by decide +kernel
theorem dX10_welfare_1 : decode cX10_welfare 1 = .ok (.iconst 0, 1) := by decide +kernel
theorem dX10_welfare_2 : decode cX10_welfare 2 = .ok (.putfield 107, 3) := by decide +kernel
theorem dX10_welfare_5 : decode cX10_welfare 5 = .ok (.iload_n 1, 1) := by decide +kernel
theorem dX10_welfare_6 : decode cX10_welfare 6 = .ok (.aload_n 0, 1) := by decide +kernel
theorem dX10_welfare_7 : decode cX10_welfare 7 = .ok (.getfield 116, 3) := by decide +kernel
theorem dX10_welfare_10 : decode cX10_welfare 10 = .ok (.invokestatic 119, 3) := by decide +kernel
theorem dX10_welfare_13 : decode cX10_welfare 13 = .ok (.ifCond .ne 10, 3) := by decide +kernel
theorem dX10_welfare_16 : decode cX10_welfare 16 = .ok (.aload_n 0, 1) := by decide +kernel
theorem dX10_welfare_17 : decode cX10_welfare 17 = .ok (.iconst 1, 1) := by decide +kernel
theorem dX10_welfare_18 : decode cX10_welfare 18 = .ok (.invokevirtual 147, 3) := by decide +kernel
theorem dX10_welfare_21 : decode cX10_welfare 21 = .ok (.i2l, 1) := by decide +kernel
theorem dX10_welfare_22 : decode cX10_welfare 22 = .ok (.lreturn, 1) := by decide +kernel
theorem dX10_welfare_23 : decode cX10_welfare 23 = .ok (.lconst 0, 1) := by decide +kernel
theorem dX10_welfare_24 : decode cX10_welfare 24 = .ok (.lstore_n 2, 1) := by decide +kernel
theorem dX10_welfare_25 : decode cX10_welfare 25 = .ok (.iconst 0, 1) := by decide +kernel
theorem dX10_welfare_26 : decode cX10_welfare 26 = .ok (.istore 4, 2) := by decide +kernel
theorem dX10_welfare_28 : decode cX10_welfare 28 = .ok (.iload 4, 2) := by decide +kernel
theorem dX10_welfare_30 : decode cX10_welfare 30 = .ok (.aload_n 0, 1) := by decide +kernel
theorem dX10_welfare_31 : decode cX10_welfare 31 = .ok (.getfield 113, 3) := by decide +kernel
theorem dX10_welfare_34 : decode cX10_welfare 34 = .ok (.if_icmp .ge 58, 3) := by decide +kernel
theorem dX10_welfare_37 : decode cX10_welfare 37 = .ok (.aload_n 0, 1) := by decide +kernel
theorem dX10_welfare_38 : decode cX10_welfare 38 = .ok (.iload_n 1, 1) := by decide +kernel
theorem dX10_welfare_39 : decode cX10_welfare 39 = .ok (.iload 4, 2) := by decide +kernel
theorem dX10_welfare_41 : decode cX10_welfare 41 = .ok (.invokevirtual 144, 3) := by decide +kernel
theorem dX10_welfare_44 : decode cX10_welfare 44 = .ok (.istore 5, 2) := by decide +kernel
theorem dX10_welfare_46 : decode cX10_welfare 46 = .ok (.iconst 0, 1) := by decide +kernel
theorem dX10_welfare_47 : decode cX10_welfare 47 = .ok (.istore 6, 2) := by decide +kernel
theorem dX10_welfare_49 : decode cX10_welfare 49 = .ok (.iload 6, 2) := by decide +kernel
theorem dX10_welfare_51 : decode cX10_welfare 51 = .ok (.aload_n 0, 1) := by decide +kernel
theorem dX10_welfare_52 : decode cX10_welfare 52 = .ok (.getfield 97, 3) := by decide +kernel
theorem dX10_welfare_55 : decode cX10_welfare 55 = .ok (.if_icmp .ge 31, 3) := by decide +kernel
theorem dX10_welfare_58 : decode cX10_welfare 58 = .ok (.lload_n 2, 1) := by decide +kernel
theorem dX10_welfare_59 : decode cX10_welfare 59 = .ok (.aload_n 0, 1) := by decide +kernel
theorem dX10_welfare_60 : decode cX10_welfare 60 = .ok (.getfield 9, 3) := by decide +kernel
theorem dX10_welfare_63 : decode cX10_welfare 63 = .ok (.iconst 5, 1) := by decide +kernel
theorem dX10_welfare_64 : decode cX10_welfare 64 = .ok (.aload_n 0, 1) := by decide +kernel
theorem dX10_welfare_65 : decode cX10_welfare 65 = .ok (.iload 4, 2) := by decide +kernel
theorem dX10_welfare_67 : decode cX10_welfare 67 = .ok (.iload 6, 2) := by decide +kernel
theorem dX10_welfare_69 : decode cX10_welfare 69 = .ok (.invokevirtual 126, 3) := by decide +kernel
theorem dX10_welfare_72 : decode cX10_welfare 72 = .ok (.imul, 1) := by decide +kernel
theorem dX10_welfare_73 : decode cX10_welfare 73 = .ok (.iload 5, 2) := by decide +kernel
theorem dX10_welfare_75 : decode cX10_welfare 75 = .ok (.iadd, 1) := by decide +kernel
theorem dX10_welfare_76 : decode cX10_welfare 76 = .ok (.iaload, 1) := by decide +kernel
theorem dX10_welfare_77 : decode cX10_welfare 77 = .ok (.i2l, 1) := by decide +kernel
theorem dX10_welfare_78 : decode cX10_welfare 78 = .ok (.ladd, 1) := by decide +kernel
theorem dX10_welfare_79 : decode cX10_welfare 79 = .ok (.lstore_n 2, 1) := by decide +kernel
theorem dX10_welfare_80 : decode cX10_welfare 80 = .ok (.iinc 6 1, 3) := by decide +kernel
theorem dX10_welfare_83 : decode cX10_welfare 83 = .ok (.goto (-34), 3) := by decide +kernel
theorem dX10_welfare_86 : decode cX10_welfare 86 = .ok (.iinc 4 1, 3) := by decide +kernel
theorem dX10_welfare_89 : decode cX10_welfare 89 = .ok (.goto (-61), 3) := by decide +kernel
theorem dX10_welfare_92 : decode cX10_welfare 92 = .ok (.lload_n 2, 1) := by decide +kernel
theorem dX10_welfare_93 : decode cX10_welfare 93 = .ok (.lreturn, 1) := by decide +kernel
theorem dX10_measure_0 : decode cX10_measure 0 = .ok (.iconst 0, 1) := by decide +kernel
theorem dX10_measure_1 : decode cX10_measure 1 = .ok (.istore 4, 2) := by decide +kernel
theorem dX10_measure_3 : decode cX10_measure 3 = .ok (.iload 4, 2) := by decide +kernel
theorem dX10_measure_5 : decode cX10_measure 5 = .ok (.aload_n 0, 1) := by decide +kernel
theorem dX10_measure_6 : decode cX10_measure 6 = .ok (.getfield 101, 3) := by decide +kernel
theorem dX10_measure_9 : decode cX10_measure 9 = .ok (.if_icmp .ge 17, 3) := by decide +kernel
theorem dX10_measure_12 : decode cX10_measure 12 = .ok (.aload_n 0, 1) := by decide +kernel
theorem dX10_measure_13 : decode cX10_measure 13 = .ok (.getfield 41, 3) := by decide +kernel
theorem dX10_measure_16 : decode cX10_measure 16 = .ok (.iload 4, 2) := by decide +kernel
theorem dX10_measure_18 : decode cX10_measure 18 = .ok (.iconst 0, 1) := by decide +kernel
theorem dX10_measure_19 : decode cX10_measure 19 = .ok (.bastore, 1) := by decide +kernel
theorem dX10_measure_20 : decode cX10_measure 20 = .ok (.iinc 4 1, 3) := by decide +kernel
theorem dX10_measure_23 : decode cX10_measure 23 = .ok (.goto (-20), 3) := by decide +kernel
theorem dX10_measure_26 : decode cX10_measure 26 = .ok (.iconst 0, 1) := by decide +kernel
theorem dX10_measure_27 : decode cX10_measure 27 = .ok (.istore 4, 2) := by decide +kernel
theorem dX10_measure_29 : decode cX10_measure 29 = .ok (.iload 4, 2) := by decide +kernel
theorem dX10_measure_31 : decode cX10_measure 31 = .ok (.bipush 25, 2) := by decide +kernel
theorem dX10_measure_33 : decode cX10_measure 33 = .ok (.if_icmp .ge 18, 3) := by decide +kernel
theorem dX10_measure_36 : decode cX10_measure 36 = .ok (.aload_n 0, 1) := by decide +kernel
theorem dX10_measure_37 : decode cX10_measure 37 = .ok (.getfield 45, 3) := by decide +kernel
theorem dX10_measure_40 : decode cX10_measure 40 = .ok (.iload 4, 2) := by decide +kernel
theorem dX10_measure_42 : decode cX10_measure 42 = .ok (.ldc 170, 2) := by decide +kernel
theorem dX10_measure_44 : decode cX10_measure 44 = .ok (.iastore, 1) := by decide +kernel
theorem dX10_measure_45 : decode cX10_measure 45 = .ok (.iinc 4 1, 3) := by decide +kernel
theorem dX10_measure_48 : decode cX10_measure 48 = .ok (.goto (-19), 3) := by decide +kernel
theorem dX10_measure_51 : decode cX10_measure 51 = .ok (.iconst 0, 1) := by decide +kernel
theorem dX10_measure_52 : decode cX10_measure 52 = .ok (.istore 4, 2) := by decide +kernel
theorem dX10_measure_54 : decode cX10_measure 54 = .ok (.iload 4, 2) := by decide +kernel
theorem dX10_measure_56 : decode cX10_measure 56 = .ok (.aload_n 0, 1) := by decide +kernel
theorem dX10_measure_57 : decode cX10_measure 57 = .ok (.getfield 110, 3) := by decide +kernel
theorem dX10_measure_60 : decode cX10_measure 60 = .ok (.if_icmp .ge 102, 3) := by decide +kernel
theorem dX10_measure_63 : decode cX10_measure 63 = .ok (.aload_n 0, 1) := by decide +kernel
theorem dX10_measure_64 : decode cX10_measure 64 = .ok (.iload_n 1, 1) := by decide +kernel
theorem dX10_measure_65 : decode cX10_measure 65 = .ok (.aload_n 0, 1) := by decide +kernel
theorem dX10_measure_66 : decode cX10_measure 66 = .ok (.iload_n 2, 1) := by decide +kernel
theorem dX10_measure_67 : decode cX10_measure 67 = .ok (.iload_n 3, 1) := by decide +kernel
theorem dX10_measure_68 : decode cX10_measure 68 = .ok (.iload 4, 2) := by decide +kernel
theorem dX10_measure_70 : decode cX10_measure 70 = .ok (.invokevirtual 153, 3) := by decide +kernel
theorem dX10_measure_73 : decode cX10_measure 73 = .ok (.invokevirtual 144, 3) := by decide +kernel
theorem dX10_measure_76 : decode cX10_measure 76 = .ok (.istore 5, 2) := by decide +kernel
theorem dX10_measure_78 : decode cX10_measure 78 = .ok (.aload_n 0, 1) := by decide +kernel
theorem dX10_measure_79 : decode cX10_measure 79 = .ok (.getfield 41, 3) := by decide +kernel
theorem dX10_measure_82 : decode cX10_measure 82 = .ok (.iload 5, 2) := by decide +kernel
theorem dX10_measure_84 : decode cX10_measure 84 = .ok (.iconst 1, 1) := by decide +kernel
theorem dX10_measure_85 : decode cX10_measure 85 = .ok (.bastore, 1) := by decide +kernel
theorem dX10_measure_86 : decode cX10_measure 86 = .ok (.iconst 0, 1) := by decide +kernel
theorem dX10_measure_87 : decode cX10_measure 87 = .ok (.istore 6, 2) := by decide +kernel
theorem dX10_measure_89 : decode cX10_measure 89 = .ok (.iload 6, 2) := by decide +kernel
theorem dX10_measure_91 : decode cX10_measure 91 = .ok (.aload_n 0, 1) := by decide +kernel
theorem dX10_measure_92 : decode cX10_measure 92 = .ok (.getfield 101, 3) := by decide +kernel
theorem dX10_measure_95 : decode cX10_measure 95 = .ok (.if_icmp .ge 61, 3) := by decide +kernel
theorem dX10_measure_98 : decode cX10_measure 98 = .ok (.aload_n 0, 1) := by decide +kernel
theorem dX10_measure_99 : decode cX10_measure 99 = .ok (.getfield 45, 3) := by decide +kernel
theorem dX10_measure_102 : decode cX10_measure 102 = .ok (.iconst 5, 1) := by decide +kernel
theorem dX10_measure_103 : decode cX10_measure 103 = .ok (.iload 6, 2) := by decide +kernel
theorem dX10_measure_105 : decode cX10_measure 105 = .ok (.imul, 1) := by decide +kernel
theorem dX10_measure_106 : decode cX10_measure 106 = .ok (.iload 5, 2) := by decide +kernel
theorem dX10_measure_108 : decode cX10_measure 108 = .ok (.iadd, 1) := by decide +kernel
theorem dX10_measure_109 : decode cX10_measure 109 = .ok (.aload_n 0, 1) := by decide +kernel
theorem dX10_measure_110 : decode cX10_measure 110 = .ok (.getfield 45, 3) := by decide +kernel
theorem dX10_measure_113 : decode cX10_measure 113 = .ok (.iconst 5, 1) := by decide +kernel
theorem dX10_measure_114 : decode cX10_measure 114 = .ok (.iload 6, 2) := by decide +kernel
theorem dX10_measure_116 : decode cX10_measure 116 = .ok (.imul, 1) := by decide +kernel
theorem dX10_measure_117 : decode cX10_measure 117 = .ok (.iload 5, 2) := by decide +kernel
theorem dX10_measure_119 : decode cX10_measure 119 = .ok (.iadd, 1) := by decide +kernel
theorem dX10_measure_120 : decode cX10_measure 120 = .ok (.iaload, 1) := by decide +kernel
theorem dX10_measure_121 : decode cX10_measure 121 = .ok (.aload_n 0, 1) := by decide +kernel
theorem dX10_measure_122 : decode cX10_measure 122 = .ok (.getfield 9, 3) := by decide +kernel
theorem dX10_measure_125 : decode cX10_measure 125 = .ok (.iconst 5, 1) := by decide +kernel
theorem dX10_measure_126 : decode cX10_measure 126 = .ok (.iload 4, 2) := by decide +kernel
theorem dX10_measure_128 : decode cX10_measure 128 = .ok (.imul, 1) := by decide +kernel
theorem dX10_measure_129 : decode cX10_measure 129 = .ok (.iload 5, 2) := by decide +kernel
theorem dX10_measure_131 : decode cX10_measure 131 = .ok (.iadd, 1) := by decide +kernel
theorem dX10_measure_132 : decode cX10_measure 132 = .ok (.iaload, 1) := by decide +kernel
theorem dX10_measure_133 : decode cX10_measure 133 = .ok (.aload_n 0, 1) := by decide +kernel
theorem dX10_measure_134 : decode cX10_measure 134 = .ok (.getfield 9, 3) := by decide +kernel
theorem dX10_measure_137 : decode cX10_measure 137 = .ok (.iconst 5, 1) := by decide +kernel
theorem dX10_measure_138 : decode cX10_measure 138 = .ok (.iload 4, 2) := by decide +kernel
theorem dX10_measure_140 : decode cX10_measure 140 = .ok (.imul, 1) := by decide +kernel
theorem dX10_measure_141 : decode cX10_measure 141 = .ok (.iload 6, 2) := by decide +kernel
theorem dX10_measure_143 : decode cX10_measure 143 = .ok (.iadd, 1) := by decide +kernel
theorem dX10_measure_144 : decode cX10_measure 144 = .ok (.iaload, 1) := by decide +kernel
theorem dX10_measure_145 : decode cX10_measure 145 = .ok (.isub, 1) := by decide +kernel
theorem dX10_measure_146 : decode cX10_measure 146 = .ok (.invokestatic 171, 3) := by decide +kernel
theorem dX10_measure_149 : decode cX10_measure 149 = .ok (.iastore, 1) := by decide +kernel
theorem dX10_measure_150 : decode cX10_measure 150 = .ok (.iinc 6 1, 3) := by decide +kernel
theorem dX10_measure_153 : decode cX10_measure 153 = .ok (.goto (-64), 3) := by decide +kernel
theorem dX10_measure_156 : decode cX10_measure 156 = .ok (.iinc 4 1, 3) := by decide +kernel
theorem dX10_measure_159 : decode cX10_measure 159 = .ok (.goto (-105), 3) := by decide +kernel
theorem dX10_measure_162 : decode cX10_measure 162 = .ok (.return_, 1) := by decide +kernel
theorem dX10_leastRound_0 : decode cX10_leastRound 0 = .ok (.ldc 170, 2) := by decide +kernel
theorem dX10_leastRound_2 : decode cX10_leastRound 2 = .ok (.istore 5, 2) := by decide +kernel
theorem dX10_leastRound_4 : decode cX10_leastRound 4 = .ok (.iload_n 1, 1) := by decide +kernel
theorem dX10_leastRound_5 : decode cX10_leastRound 5 = .ok (.istore 6, 2) := by decide +kernel
theorem dX10_leastRound_7 : decode cX10_leastRound 7 = .ok (.iload 6, 2) := by decide +kernel
theorem dX10_leastRound_9 : decode cX10_leastRound 9 = .ok (.aload_n 0, 1) := by decide +kernel
theorem dX10_leastRound_10 : decode cX10_leastRound 10 = .ok (.getfield 101, 3) := by decide +kernel
theorem dX10_leastRound_13 : decode cX10_leastRound 13 = .ok (.if_icmp .ge 99, 3) := by decide +kernel
theorem dX10_leastRound_16 : decode cX10_leastRound 16 = .ok (.aload_n 0, 1) := by decide +kernel
theorem dX10_leastRound_17 : decode cX10_leastRound 17 = .ok (.getfield 41, 3) := by decide +kernel
theorem dX10_leastRound_20 : decode cX10_leastRound 20 = .ok (.iload 6, 2) := by decide +kernel
theorem dX10_leastRound_22 : decode cX10_leastRound 22 = .ok (.baload, 1) := by decide +kernel
theorem dX10_leastRound_23 : decode cX10_leastRound 23 = .ok (.ifCond .ne 6, 3) := by decide +kernel
theorem dX10_leastRound_26 : decode cX10_leastRound 26 = .ok (.goto 80, 3) := by decide +kernel
theorem dX10_leastRound_29 : decode cX10_leastRound 29 = .ok (.iload 6, 2) := by decide +kernel
theorem dX10_leastRound_31 : decode cX10_leastRound 31 = .ok (.iload_n 1, 1) := by decide +kernel
theorem dX10_leastRound_32 : decode cX10_leastRound 32 = .ok (.if_icmp .ne 31, 3) := by decide +kernel
theorem dX10_leastRound_35 : decode cX10_leastRound 35 = .ok (.iload_n 2, 1) := by decide +kernel
theorem dX10_leastRound_36 : decode cX10_leastRound 36 = .ok (.iload_n 1, 1) := by decide +kernel
theorem dX10_leastRound_37 : decode cX10_leastRound 37 = .ok (.if_icmp .eq 69, 3) := by decide +kernel
theorem dX10_leastRound_40 : decode cX10_leastRound 40 = .ok (.iload 5, 2) := by decide +kernel
theorem dX10_leastRound_42 : decode cX10_leastRound 42 = .ok (.iload 4, 2) := by decide +kernel
theorem dX10_leastRound_44 : decode cX10_leastRound 44 = .ok (.aload_n 0, 1) := by decide +kernel
theorem dX10_leastRound_45 : decode cX10_leastRound 45 = .ok (.getfield 45, 3) := by decide +kernel
theorem dX10_leastRound_48 : decode cX10_leastRound 48 = .ok (.iconst 5, 1) := by decide +kernel
theorem dX10_leastRound_49 : decode cX10_leastRound 49 = .ok (.iload_n 2, 1) := by decide +kernel
theorem dX10_leastRound_50 : decode cX10_leastRound 50 = .ok (.imul, 1) := by decide +kernel
theorem dX10_leastRound_51 : decode cX10_leastRound 51 = .ok (.iload_n 1, 1) := by decide +kernel
theorem dX10_leastRound_52 : decode cX10_leastRound 52 = .ok (.iadd, 1) := by decide +kernel
theorem dX10_leastRound_53 : decode cX10_leastRound 53 = .ok (.iaload, 1) := by decide +kernel
theorem dX10_leastRound_54 : decode cX10_leastRound 54 = .ok (.iadd, 1) := by decide +kernel
theorem dX10_leastRound_55 : decode cX10_leastRound 55 = .ok (.invokestatic 171, 3) := by decide +kernel
theorem dX10_leastRound_58 : decode cX10_leastRound 58 = .ok (.istore 5, 2) := by decide +kernel
theorem dX10_leastRound_60 : decode cX10_leastRound 60 = .ok (.goto 46, 3) := by decide +kernel
theorem dX10_leastRound_63 : decode cX10_leastRound 63 = .ok (.iload_n 3, 1) := by decide +kernel
theorem dX10_leastRound_64 : decode cX10_leastRound 64 = .ok (.iload 6, 2) := by decide +kernel
theorem dX10_leastRound_66 : decode cX10_leastRound 66 = .ok (.ishr, 1) := by decide +kernel
theorem dX10_leastRound_67 : decode cX10_leastRound 67 = .ok (.iconst 1, 1) := by decide +kernel
theorem dX10_leastRound_68 : decode cX10_leastRound 68 = .ok (.iand, 1) := by decide +kernel
theorem dX10_leastRound_69 : decode cX10_leastRound 69 = .ok (.ifCond .ne 37, 3) := by decide +kernel
theorem dX10_leastRound_72 : decode cX10_leastRound 72 = .ok (.iload 5, 2) := by decide +kernel
theorem dX10_leastRound_74 : decode cX10_leastRound 74 = .ok (.aload_n 0, 1) := by decide +kernel
theorem dX10_leastRound_75 : decode cX10_leastRound 75 = .ok (.iload_n 1, 1) := by decide +kernel
theorem dX10_leastRound_76 : decode cX10_leastRound 76 = .ok (.iload 6, 2) := by decide +kernel
theorem dX10_leastRound_78 : decode cX10_leastRound 78 = .ok (.iload_n 3, 1) := by decide +kernel
theorem dX10_leastRound_79 : decode cX10_leastRound 79 = .ok (.iconst 1, 1) := by decide +kernel
theorem dX10_leastRound_80 : decode cX10_leastRound 80 = .ok (.iload 6, 2) := by decide +kernel
theorem dX10_leastRound_82 : decode cX10_leastRound 82 = .ok (.ishl, 1) := by decide +kernel
theorem dX10_leastRound_83 : decode cX10_leastRound 83 = .ok (.ior, 1) := by decide +kernel
theorem dX10_leastRound_84 : decode cX10_leastRound 84 = .ok (.iload 4, 2) := by decide +kernel
theorem dX10_leastRound_86 : decode cX10_leastRound 86 = .ok (.aload_n 0, 1) := by decide +kernel
theorem dX10_leastRound_87 : decode cX10_leastRound 87 = .ok (.getfield 45, 3) := by decide +kernel
theorem dX10_leastRound_90 : decode cX10_leastRound 90 = .ok (.iconst 5, 1) := by decide +kernel
theorem dX10_leastRound_91 : decode cX10_leastRound 91 = .ok (.iload_n 2, 1) := by decide +kernel
theorem dX10_leastRound_92 : decode cX10_leastRound 92 = .ok (.imul, 1) := by decide +kernel
theorem dX10_leastRound_93 : decode cX10_leastRound 93 = .ok (.iload 6, 2) := by decide +kernel
theorem dX10_leastRound_95 : decode cX10_leastRound 95 = .ok (.iadd, 1) := by decide +kernel
theorem dX10_leastRound_96 : decode cX10_leastRound 96 = .ok (.iaload, 1) := by decide +kernel
theorem dX10_leastRound_97 : decode cX10_leastRound 97 = .ok (.iadd, 1) := by decide +kernel
theorem dX10_leastRound_98 : decode cX10_leastRound 98 = .ok (.invokevirtual 174, 3) := by decide +kernel
theorem dX10_leastRound_101 : decode cX10_leastRound 101 = .ok (.invokestatic 171, 3) := by decide +kernel
theorem dX10_leastRound_104 : decode cX10_leastRound 104 = .ok (.istore 5, 2) := by decide +kernel
theorem dX10_leastRound_106 : decode cX10_leastRound 106 = .ok (.iinc 6 1, 3) := by decide +kernel
theorem dX10_leastRound_109 : decode cX10_leastRound 109 = .ok (.goto (-102), 3) := by decide +kernel
theorem dX10_leastRound_112 : decode cX10_leastRound 112 = .ok (.iload 5, 2) := by decide +kernel
theorem dX10_leastRound_114 : decode cX10_leastRound 114 = .ok (.ireturn, 1) := by decide +kernel
theorem dX10_least_0 : decode cX10_least 0 = .ok (.ldc 170, 2) := by decide +kernel
theorem dX10_least_2 : decode cX10_least 2 = .ok (.istore_n 1, 1) := by decide +kernel
theorem dX10_least_3 : decode cX10_least 3 = .ok (.iconst 0, 1) := by decide +kernel
theorem dX10_least_4 : decode cX10_least 4 = .ok (.istore_n 2, 1) := by decide +kernel
theorem dX10_least_5 : decode cX10_least 5 = .ok (.iload_n 2, 1) := by decide +kernel
theorem dX10_least_6 : decode cX10_least 6 = .ok (.aload_n 0, 1) := by decide +kernel
theorem dX10_least_7 : decode cX10_least 7 = .ok (.getfield 101, 3) := by decide +kernel
theorem dX10_least_10 : decode cX10_least 10 = .ok (.if_icmp .ge 33, 3) := by decide +kernel
theorem dX10_least_13 : decode cX10_least 13 = .ok (.aload_n 0, 1) := by decide +kernel
theorem dX10_least_14 : decode cX10_least 14 = .ok (.getfield 41, 3) := by decide +kernel
theorem dX10_least_17 : decode cX10_least 17 = .ok (.iload_n 2, 1) := by decide +kernel
theorem dX10_least_18 : decode cX10_least 18 = .ok (.baload, 1) := by decide +kernel
theorem dX10_least_19 : decode cX10_least 19 = .ok (.ifCond .eq 18, 3) := by decide +kernel
theorem dX10_least_22 : decode cX10_least 22 = .ok (.iload_n 1, 1) := by decide +kernel
theorem dX10_least_23 : decode cX10_least 23 = .ok (.aload_n 0, 1) := by decide +kernel
theorem dX10_least_24 : decode cX10_least 24 = .ok (.iload_n 2, 1) := by decide +kernel
theorem dX10_least_25 : decode cX10_least 25 = .ok (.iload_n 2, 1) := by decide +kernel
theorem dX10_least_26 : decode cX10_least 26 = .ok (.iconst 1, 1) := by decide +kernel
theorem dX10_least_27 : decode cX10_least 27 = .ok (.iload_n 2, 1) := by decide +kernel
theorem dX10_least_28 : decode cX10_least 28 = .ok (.ishl, 1) := by decide +kernel
theorem dX10_least_29 : decode cX10_least 29 = .ok (.iconst 0, 1) := by decide +kernel
theorem dX10_least_30 : decode cX10_least 30 = .ok (.invokevirtual 174, 3) := by decide +kernel
theorem dX10_least_33 : decode cX10_least 33 = .ok (.invokestatic 171, 3) := by decide +kernel
theorem dX10_least_36 : decode cX10_least 36 = .ok (.istore_n 1, 1) := by decide +kernel
theorem dX10_least_37 : decode cX10_least 37 = .ok (.iinc 2 1, 3) := by decide +kernel
theorem dX10_least_40 : decode cX10_least 40 = .ok (.goto (-35), 3) := by decide +kernel
theorem dX10_least_43 : decode cX10_least 43 = .ok (.iload_n 1, 1) := by decide +kernel
theorem dX10_least_44 : decode cX10_least 44 = .ok (.ireturn, 1) := by decide +kernel
theorem dX10_span_0 : decode cX10_span 0 = .ok (.aload_n 0, 1) := by decide +kernel
theorem dX10_span_1 : decode cX10_span 1 = .ok (.iconst 0, 1) := by decide +kernel
theorem dX10_span_2 : decode cX10_span 2 = .ok (.putfield 107, 3) := by decide +kernel
theorem dX10_span_5 : decode cX10_span 5 = .ok (.aload_n 0, 1) := by decide +kernel
theorem dX10_span_6 : decode cX10_span 6 = .ok (.iload_n 1, 1) := by decide +kernel
theorem dX10_span_7 : decode cX10_span 7 = .ok (.iload_n 2, 1) := by decide +kernel
theorem dX10_span_8 : decode cX10_span 8 = .ok (.invokevirtual 123, 3) := by decide +kernel
theorem dX10_span_11 : decode cX10_span 11 = .ok (.ifCond .eq 38, 3) := by decide +kernel
theorem dX10_span_14 : decode cX10_span 14 = .ok (.iload_n 3, 1) := by decide +kernel
theorem dX10_span_15 : decode cX10_span 15 = .ok (.aload_n 0, 1) := by decide +kernel
theorem dX10_span_16 : decode cX10_span 16 = .ok (.getfield 97, 3) := by decide +kernel
theorem dX10_span_19 : decode cX10_span 19 = .ok (.invokestatic 119, 3) := by decide +kernel
theorem dX10_span_22 : decode cX10_span 22 = .ok (.ifCond .eq 27, 3) := by decide +kernel
theorem dX10_span_25 : decode cX10_span 25 = .ok (.iload 4, 2) := by decide +kernel
theorem dX10_span_27 : decode cX10_span 27 = .ok (.aload_n 0, 1) := by decide +kernel
theorem dX10_span_28 : decode cX10_span 28 = .ok (.getfield 101, 3) := by decide +kernel
theorem dX10_span_31 : decode cX10_span 31 = .ok (.invokestatic 119, 3) := by decide +kernel
theorem dX10_span_34 : decode cX10_span 34 = .ok (.ifCond .eq 15, 3) := by decide +kernel
theorem dX10_span_37 : decode cX10_span 37 = .ok (.iload 5, 2) := by decide +kernel
theorem dX10_span_39 : decode cX10_span 39 = .ok (.aload_n 0, 1) := by decide +kernel
theorem dX10_span_40 : decode cX10_span 40 = .ok (.getfield 101, 3) := by decide +kernel
theorem dX10_span_43 : decode cX10_span 43 = .ok (.invokestatic 119, 3) := by decide +kernel
theorem dX10_span_46 : decode cX10_span 46 = .ok (.ifCond .ne 9, 3) := by decide +kernel
theorem dX10_span_49 : decode cX10_span 49 = .ok (.aload_n 0, 1) := by decide +kernel
theorem dX10_span_50 : decode cX10_span 50 = .ok (.iconst 1, 1) := by decide +kernel
theorem dX10_span_51 : decode cX10_span 51 = .ok (.invokevirtual 147, 3) := by decide +kernel
theorem dX10_span_54 : decode cX10_span 54 = .ok (.ireturn, 1) := by decide +kernel
theorem dX10_span_55 : decode cX10_span 55 = .ok (.aload_n 0, 1) := by decide +kernel
theorem dX10_span_56 : decode cX10_span 56 = .ok (.iload_n 1, 1) := by decide +kernel
theorem dX10_span_57 : decode cX10_span 57 = .ok (.iload_n 2, 1) := by decide +kernel
theorem dX10_span_58 : decode cX10_span 58 = .ok (.iload_n 3, 1) := by decide +kernel
theorem dX10_span_59 : decode cX10_span 59 = .ok (.invokevirtual 177, 3) := by decide +kernel
theorem dX10_span_62 : decode cX10_span 62 = .ok (.aload_n 0, 1) := by decide +kernel
theorem dX10_span_63 : decode cX10_span 63 = .ok (.getfield 41, 3) := by decide +kernel
theorem dX10_span_66 : decode cX10_span 66 = .ok (.iload 4, 2) := by decide +kernel
theorem dX10_span_68 : decode cX10_span 68 = .ok (.baload, 1) := by decide +kernel
theorem dX10_span_69 : decode cX10_span 69 = .ok (.ifCond .eq 13, 3) := by decide +kernel
theorem dX10_span_72 : decode cX10_span 72 = .ok (.aload_n 0, 1) := by decide +kernel
theorem dX10_span_73 : decode cX10_span 73 = .ok (.getfield 41, 3) := by decide +kernel
theorem dX10_span_76 : decode cX10_span 76 = .ok (.iload 5, 2) := by decide +kernel
theorem dX10_span_78 : decode cX10_span 78 = .ok (.baload, 1) := by decide +kernel
theorem dX10_span_79 : decode cX10_span 79 = .ok (.ifCond .ne 9, 3) := by decide +kernel
theorem dX10_span_82 : decode cX10_span 82 = .ok (.aload_n 0, 1) := by decide +kernel
theorem dX10_span_83 : decode cX10_span 83 = .ok (.iconst 2, 1) := by decide +kernel
theorem dX10_span_84 : decode cX10_span 84 = .ok (.invokevirtual 147, 3) := by decide +kernel
theorem dX10_span_87 : decode cX10_span 87 = .ok (.ireturn, 1) := by decide +kernel
theorem dX10_span_88 : decode cX10_span 88 = .ok (.aload_n 0, 1) := by decide +kernel
theorem dX10_span_89 : decode cX10_span 89 = .ok (.getfield 45, 3) := by decide +kernel
theorem dX10_span_92 : decode cX10_span 92 = .ok (.iconst 5, 1) := by decide +kernel
theorem dX10_span_93 : decode cX10_span 93 = .ok (.iload 4, 2) := by decide +kernel
theorem dX10_span_95 : decode cX10_span 95 = .ok (.imul, 1) := by decide +kernel
theorem dX10_span_96 : decode cX10_span 96 = .ok (.iload 5, 2) := by decide +kernel
theorem dX10_span_98 : decode cX10_span 98 = .ok (.iadd, 1) := by decide +kernel
theorem dX10_span_99 : decode cX10_span 99 = .ok (.iaload, 1) := by decide +kernel
theorem dX10_span_100 : decode cX10_span 100 = .ok (.ireturn, 1) := by decide +kernel
theorem dX10_round_0 : decode cX10_round 0 = .ok (.iload_n 1, 1) := by decide +kernel
theorem dX10_round_1 : decode cX10_round 1 = .ok (.aload_n 0, 1) := by decide +kernel
theorem dX10_round_2 : decode cX10_round 2 = .ok (.getfield 116, 3) := by decide +kernel
theorem dX10_round_5 : decode cX10_round 5 = .ok (.invokestatic 119, 3) := by decide +kernel
theorem dX10_round_8 : decode cX10_round 8 = .ok (.ifCond .eq 11, 3) := by decide +kernel
theorem dX10_round_11 : decode cX10_round 11 = .ok (.iload_n 2, 1) := by decide +kernel
theorem dX10_round_12 : decode cX10_round 12 = .ok (.iconst 3, 1) := by decide +kernel
theorem dX10_round_13 : decode cX10_round 13 = .ok (.invokestatic 119, 3) := by decide +kernel
theorem dX10_round_16 : decode cX10_round 16 = .ok (.ifCond .ne 5, 3) := by decide +kernel
theorem dX10_round_19 : decode cX10_round 19 = .ok (.iconst (-1), 1) := by decide +kernel
theorem dX10_round_20 : decode cX10_round 20 = .ok (.ireturn, 1) := by decide +kernel
theorem dX10_round_21 : decode cX10_round 21 = .ok (.iconst 0, 1) := by decide +kernel
theorem dX10_round_22 : decode cX10_round 22 = .ok (.istore_n 3, 1) := by decide +kernel
theorem dX10_round_23 : decode cX10_round 23 = .ok (.iload_n 3, 1) := by decide +kernel
theorem dX10_round_24 : decode cX10_round 24 = .ok (.aload_n 0, 1) := by decide +kernel
theorem dX10_round_25 : decode cX10_round 25 = .ok (.getfield 97, 3) := by decide +kernel
theorem dX10_round_28 : decode cX10_round 28 = .ok (.if_icmp .ge 81, 3) := by decide +kernel
theorem dX10_round_31 : decode cX10_round 31 = .ok (.iconst 0, 1) := by decide +kernel
theorem dX10_round_32 : decode cX10_round 32 = .ok (.istore 4, 2) := by decide +kernel
theorem dX10_round_34 : decode cX10_round 34 = .ok (.iload 4, 2) := by decide +kernel
theorem dX10_round_36 : decode cX10_round 36 = .ok (.aload_n 0, 1) := by decide +kernel
theorem dX10_round_37 : decode cX10_round 37 = .ok (.getfield 113, 3) := by decide +kernel
theorem dX10_round_40 : decode cX10_round 40 = .ok (.if_icmp .ge 63, 3) := by decide +kernel
theorem dX10_round_43 : decode cX10_round 43 = .ok (.aload_n 0, 1) := by decide +kernel
theorem dX10_round_44 : decode cX10_round 44 = .ok (.iload 4, 2) := by decide +kernel
theorem dX10_round_46 : decode cX10_round 46 = .ok (.iload_n 3, 1) := by decide +kernel
theorem dX10_round_47 : decode cX10_round 47 = .ok (.invokevirtual 126, 3) := by decide +kernel
theorem dX10_round_50 : decode cX10_round 50 = .ok (.ifCond .eq 6, 3) := by decide +kernel
theorem dX10_round_53 : decode cX10_round 53 = .ok (.goto 44, 3) := by decide +kernel
theorem dX10_round_56 : decode cX10_round 56 = .ok (.aload_n 0, 1) := by decide +kernel
theorem dX10_round_57 : decode cX10_round 57 = .ok (.iload_n 1, 1) := by decide +kernel
theorem dX10_round_58 : decode cX10_round 58 = .ok (.iload 4, 2) := by decide +kernel
theorem dX10_round_60 : decode cX10_round 60 = .ok (.iload_n 3, 1) := by decide +kernel
theorem dX10_round_61 : decode cX10_round 61 = .ok (.invokevirtual 177, 3) := by decide +kernel
theorem dX10_round_64 : decode cX10_round 64 = .ok (.aload_n 0, 1) := by decide +kernel
theorem dX10_round_65 : decode cX10_round 65 = .ok (.invokevirtual 181, 3) := by decide +kernel
theorem dX10_round_68 : decode cX10_round 68 = .ok (.istore 5, 2) := by decide +kernel
theorem dX10_round_70 : decode cX10_round 70 = .ok (.iload 5, 2) := by decide +kernel
theorem dX10_round_72 : decode cX10_round 72 = .ok (.ifCond .ge 25, 3) := by decide +kernel
theorem dX10_round_75 : decode cX10_round 75 = .ok (.iload_n 2, 1) := by decide +kernel
theorem dX10_round_76 : decode cX10_round 76 = .ok (.ifCond .ne 7, 3) := by decide +kernel
theorem dX10_round_79 : decode cX10_round 79 = .ok (.iload_n 3, 1) := by decide +kernel
theorem dX10_round_80 : decode cX10_round 80 = .ok (.goto 16, 3) := by decide +kernel
theorem dX10_round_83 : decode cX10_round 83 = .ok (.iload_n 2, 1) := by decide +kernel
theorem dX10_round_84 : decode cX10_round 84 = .ok (.iconst 1, 1) := by decide +kernel
theorem dX10_round_85 : decode cX10_round 85 = .ok (.if_icmp .ne 8, 3) := by decide +kernel
theorem dX10_round_88 : decode cX10_round 88 = .ok (.iload 4, 2) := by decide +kernel
theorem dX10_round_90 : decode cX10_round 90 = .ok (.goto 6, 3) := by decide +kernel
theorem dX10_round_93 : decode cX10_round 93 = .ok (.iload 5, 2) := by decide +kernel
theorem dX10_round_95 : decode cX10_round 95 = .ok (.ineg, 1) := by decide +kernel
theorem dX10_round_96 : decode cX10_round 96 = .ok (.ireturn, 1) := by decide +kernel
theorem dX10_round_97 : decode cX10_round 97 = .ok (.iinc 4 1, 3) := by decide +kernel
theorem dX10_round_100 : decode cX10_round 100 = .ok (.goto (-66), 3) := by decide +kernel
theorem dX10_round_103 : decode cX10_round 103 = .ok (.iinc 3 1, 3) := by decide +kernel
theorem dX10_round_106 : decode cX10_round 106 = .ok (.goto (-83), 3) := by decide +kernel
theorem dX10_round_109 : decode cX10_round 109 = .ok (.bipush (-2), 2) := by decide +kernel
theorem dX10_round_111 : decode cX10_round 111 = .ok (.ireturn, 1) := by decide +kernel
theorem dX10_priceAll_0 : decode cX10_priceAll 0 = .ok (.iconst 0, 1) := by decide +kernel
theorem dX10_priceAll_1 : decode cX10_priceAll 1 = .ok (.istore_n 1, 1) := by decide +kernel
theorem dX10_priceAll_2 : decode cX10_priceAll 2 = .ok (.aload_n 0, 1) := by decide +kernel
theorem dX10_priceAll_3 : decode cX10_priceAll 3 = .ok (.getfield 41, 3) := by decide +kernel
theorem dX10_priceAll_6 : decode cX10_priceAll 6 = .ok (.iload_n 1, 1) := by decide +kernel
theorem dX10_priceAll_7 : decode cX10_priceAll 7 = .ok (.baload, 1) := by decide +kernel
theorem dX10_priceAll_8 : decode cX10_priceAll 8 = .ok (.ifCond .ne 9, 3) := by decide +kernel
theorem dX10_priceAll_11 : decode cX10_priceAll 11 = .ok (.iinc 1 1, 3) := by decide +kernel
theorem dX10_priceAll_14 : decode cX10_priceAll 14 = .ok (.goto (-12), 3) := by decide +kernel
theorem dX10_priceAll_17 : decode cX10_priceAll 17 = .ok (.iconst 0, 1) := by decide +kernel
theorem dX10_priceAll_18 : decode cX10_priceAll 18 = .ok (.istore_n 2, 1) := by decide +kernel
theorem dX10_priceAll_19 : decode cX10_priceAll 19 = .ok (.iload_n 2, 1) := by decide +kernel
theorem dX10_priceAll_20 : decode cX10_priceAll 20 = .ok (.aload_n 0, 1) := by decide +kernel
theorem dX10_priceAll_21 : decode cX10_priceAll 21 = .ok (.getfield 101, 3) := by decide +kernel
theorem dX10_priceAll_24 : decode cX10_priceAll 24 = .ok (.if_icmp .ge 26, 3) := by decide +kernel
theorem dX10_priceAll_27 : decode cX10_priceAll 27 = .ok (.aload_n 0, 1) := by decide +kernel
theorem dX10_priceAll_28 : decode cX10_priceAll 28 = .ok (.getfield 48, 3) := by decide +kernel
theorem dX10_priceAll_31 : decode cX10_priceAll 31 = .ok (.iload_n 2, 1) := by decide +kernel
theorem dX10_priceAll_32 : decode cX10_priceAll 32 = .ok (.iload_n 2, 1) := by decide +kernel
theorem dX10_priceAll_33 : decode cX10_priceAll 33 = .ok (.iload_n 1, 1) := by decide +kernel
theorem dX10_priceAll_34 : decode cX10_priceAll 34 = .ok (.if_icmp .ne 7, 3) := by decide +kernel
theorem dX10_priceAll_37 : decode cX10_priceAll 37 = .ok (.iconst 0, 1) := by decide +kernel
theorem dX10_priceAll_38 : decode cX10_priceAll 38 = .ok (.goto 5, 3) := by decide +kernel
theorem dX10_priceAll_41 : decode cX10_priceAll 41 = .ok (.ldc 170, 2) := by decide +kernel
end
section
theorem dX10_priceAll_43 : decode cX10_priceAll 43 = .ok (.iastore, 1) := by decide +kernel
theorem dX10_priceAll_44 : decode cX10_priceAll 44 = .ok (.iinc 2 1, 3) := by decide +kernel
theorem dX10_priceAll_47 : decode cX10_priceAll 47 = .ok (.goto (-28), 3) := by decide +kernel
theorem dX10_priceAll_50 : decode cX10_priceAll 50 = .ok (.iconst 0, 1) := by decide +kernel
theorem dX10_priceAll_51 : decode cX10_priceAll 51 = .ok (.istore_n 2, 1) := by decide +kernel
theorem dX10_priceAll_52 : decode cX10_priceAll 52 = .ok (.iload_n 2, 1) := by decide +kernel
theorem dX10_priceAll_53 : decode cX10_priceAll 53 = .ok (.aload_n 0, 1) := by decide +kernel
theorem dX10_priceAll_54 : decode cX10_priceAll 54 = .ok (.getfield 101, 3) := by decide +kernel
theorem dX10_priceAll_57 : decode cX10_priceAll 57 = .ok (.if_icmp .ge 108, 3) := by decide +kernel
theorem dX10_priceAll_60 : decode cX10_priceAll 60 = .ok (.iconst 0, 1) := by decide +kernel
theorem dX10_priceAll_61 : decode cX10_priceAll 61 = .ok (.istore_n 3, 1) := by decide +kernel
theorem dX10_priceAll_62 : decode cX10_priceAll 62 = .ok (.iload_n 3, 1) := by decide +kernel
theorem dX10_priceAll_63 : decode cX10_priceAll 63 = .ok (.aload_n 0, 1) := by decide +kernel
theorem dX10_priceAll_64 : decode cX10_priceAll 64 = .ok (.getfield 101, 3) := by decide +kernel
theorem dX10_priceAll_67 : decode cX10_priceAll 67 = .ok (.if_icmp .ge 92, 3) := by decide +kernel
theorem dX10_priceAll_70 : decode cX10_priceAll 70 = .ok (.iconst 0, 1) := by decide +kernel
theorem dX10_priceAll_71 : decode cX10_priceAll 71 = .ok (.istore 4, 2) := by decide +kernel
theorem dX10_priceAll_73 : decode cX10_priceAll 73 = .ok (.iload 4, 2) := by decide +kernel
theorem dX10_priceAll_75 : decode cX10_priceAll 75 = .ok (.aload_n 0, 1) := by decide +kernel
theorem dX10_priceAll_76 : decode cX10_priceAll 76 = .ok (.getfield 101, 3) := by decide +kernel
theorem dX10_priceAll_79 : decode cX10_priceAll 79 = .ok (.if_icmp .ge 74, 3) := by decide +kernel
theorem dX10_priceAll_82 : decode cX10_priceAll 82 = .ok (.aload_n 0, 1) := by decide +kernel
theorem dX10_priceAll_83 : decode cX10_priceAll 83 = .ok (.getfield 41, 3) := by decide +kernel
theorem dX10_priceAll_86 : decode cX10_priceAll 86 = .ok (.iload_n 3, 1) := by decide +kernel
theorem dX10_priceAll_87 : decode cX10_priceAll 87 = .ok (.baload, 1) := by decide +kernel
theorem dX10_priceAll_88 : decode cX10_priceAll 88 = .ok (.ifCond .eq 59, 3) := by decide +kernel
theorem dX10_priceAll_91 : decode cX10_priceAll 91 = .ok (.aload_n 0, 1) := by decide +kernel
theorem dX10_priceAll_92 : decode cX10_priceAll 92 = .ok (.getfield 41, 3) := by decide +kernel
theorem dX10_priceAll_95 : decode cX10_priceAll 95 = .ok (.iload 4, 2) := by decide +kernel
theorem dX10_priceAll_97 : decode cX10_priceAll 97 = .ok (.baload, 1) := by decide +kernel
theorem dX10_priceAll_98 : decode cX10_priceAll 98 = .ok (.ifCond .eq 49, 3) := by decide +kernel
theorem dX10_priceAll_101 : decode cX10_priceAll 101 = .ok (.aload_n 0, 1) := by decide +kernel
theorem dX10_priceAll_102 : decode cX10_priceAll 102 = .ok (.getfield 48, 3) := by decide +kernel
theorem dX10_priceAll_105 : decode cX10_priceAll 105 = .ok (.iload_n 3, 1) := by decide +kernel
theorem dX10_priceAll_106 : decode cX10_priceAll 106 = .ok (.iaload, 1) := by decide +kernel
theorem dX10_priceAll_107 : decode cX10_priceAll 107 = .ok (.ldc 170, 2) := by decide +kernel
theorem dX10_priceAll_109 : decode cX10_priceAll 109 = .ok (.if_icmp .ge 38, 3) := by decide +kernel
theorem dX10_priceAll_112 : decode cX10_priceAll 112 = .ok (.aload_n 0, 1) := by decide +kernel
theorem dX10_priceAll_113 : decode cX10_priceAll 113 = .ok (.getfield 48, 3) := by decide +kernel
theorem dX10_priceAll_116 : decode cX10_priceAll 116 = .ok (.iload 4, 2) := by decide +kernel
theorem dX10_priceAll_118 : decode cX10_priceAll 118 = .ok (.aload_n 0, 1) := by decide +kernel
theorem dX10_priceAll_119 : decode cX10_priceAll 119 = .ok (.getfield 48, 3) := by decide +kernel
theorem dX10_priceAll_122 : decode cX10_priceAll 122 = .ok (.iload 4, 2) := by decide +kernel
theorem dX10_priceAll_124 : decode cX10_priceAll 124 = .ok (.iaload, 1) := by decide +kernel
theorem dX10_priceAll_125 : decode cX10_priceAll 125 = .ok (.aload_n 0, 1) := by decide +kernel
theorem dX10_priceAll_126 : decode cX10_priceAll 126 = .ok (.getfield 48, 3) := by decide +kernel
theorem dX10_priceAll_129 : decode cX10_priceAll 129 = .ok (.iload_n 3, 1) := by decide +kernel
theorem dX10_priceAll_130 : decode cX10_priceAll 130 = .ok (.iaload, 1) := by decide +kernel
theorem dX10_priceAll_131 : decode cX10_priceAll 131 = .ok (.aload_n 0, 1) := by decide +kernel
theorem dX10_priceAll_132 : decode cX10_priceAll 132 = .ok (.getfield 45, 3) := by decide +kernel
theorem dX10_priceAll_135 : decode cX10_priceAll 135 = .ok (.iconst 5, 1) := by decide +kernel
theorem dX10_priceAll_136 : decode cX10_priceAll 136 = .ok (.iload_n 3, 1) := by decide +kernel
theorem dX10_priceAll_137 : decode cX10_priceAll 137 = .ok (.imul, 1) := by decide +kernel
theorem dX10_priceAll_138 : decode cX10_priceAll 138 = .ok (.iload 4, 2) := by decide +kernel
theorem dX10_priceAll_140 : decode cX10_priceAll 140 = .ok (.iadd, 1) := by decide +kernel
theorem dX10_priceAll_141 : decode cX10_priceAll 141 = .ok (.iaload, 1) := by decide +kernel
theorem dX10_priceAll_142 : decode cX10_priceAll 142 = .ok (.iadd, 1) := by decide +kernel
theorem dX10_priceAll_143 : decode cX10_priceAll 143 = .ok (.invokestatic 171, 3) := by decide +kernel
theorem dX10_priceAll_146 : decode cX10_priceAll 146 = .ok (.iastore, 1) := by decide +kernel
theorem dX10_priceAll_147 : decode cX10_priceAll 147 = .ok (.iinc 4 1, 3) := by decide +kernel
theorem dX10_priceAll_150 : decode cX10_priceAll 150 = .ok (.goto (-77), 3) := by decide +kernel
theorem dX10_priceAll_153 : decode cX10_priceAll 153 = .ok (.iinc 3 1, 3) := by decide +kernel
theorem dX10_priceAll_156 : decode cX10_priceAll 156 = .ok (.goto (-94), 3) := by decide +kernel
theorem dX10_priceAll_159 : decode cX10_priceAll 159 = .ok (.iinc 2 1, 3) := by decide +kernel
theorem dX10_priceAll_162 : decode cX10_priceAll 162 = .ok (.goto (-110), 3) := by decide +kernel
theorem dX10_priceAll_165 : decode cX10_priceAll 165 = .ok (.return_, 1) := by decide +kernel
theorem dX10_price_0 : decode cX10_price 0 = .ok (.aload_n 0, 1) := by decide +kernel
theorem dX10_price_1 : decode cX10_price 1 = .ok (.iconst 0, 1) := by decide +kernel
theorem dX10_price_2 : decode cX10_price 2 = .ok (.putfield 107, 3) := by decide +kernel
theorem dX10_price_5 : decode cX10_price 5 = .ok (.aload_n 0, 1) := by decide +kernel
theorem dX10_price_6 : decode cX10_price 6 = .ok (.iload_n 1, 1) := by decide +kernel
theorem dX10_price_7 : decode cX10_price 7 = .ok (.iload_n 2, 1) := by decide +kernel
theorem dX10_price_8 : decode cX10_price 8 = .ok (.invokevirtual 123, 3) := by decide +kernel
theorem dX10_price_11 : decode cX10_price 11 = .ok (.ifCond .eq 26, 3) := by decide +kernel
theorem dX10_price_14 : decode cX10_price 14 = .ok (.iload_n 3, 1) := by decide +kernel
theorem dX10_price_15 : decode cX10_price 15 = .ok (.aload_n 0, 1) := by decide +kernel
theorem dX10_price_16 : decode cX10_price 16 = .ok (.getfield 97, 3) := by decide +kernel
theorem dX10_price_19 : decode cX10_price 19 = .ok (.invokestatic 119, 3) := by decide +kernel
theorem dX10_price_22 : decode cX10_price 22 = .ok (.ifCond .eq 15, 3) := by decide +kernel
theorem dX10_price_25 : decode cX10_price 25 = .ok (.iload 4, 2) := by decide +kernel
theorem dX10_price_27 : decode cX10_price 27 = .ok (.aload_n 0, 1) := by decide +kernel
theorem dX10_price_28 : decode cX10_price 28 = .ok (.getfield 101, 3) := by decide +kernel
theorem dX10_price_31 : decode cX10_price 31 = .ok (.invokestatic 119, 3) := by decide +kernel
theorem dX10_price_34 : decode cX10_price 34 = .ok (.ifCond .ne 9, 3) := by decide +kernel
theorem dX10_price_37 : decode cX10_price 37 = .ok (.aload_n 0, 1) := by decide +kernel
theorem dX10_price_38 : decode cX10_price 38 = .ok (.iconst 1, 1) := by decide +kernel
theorem dX10_price_39 : decode cX10_price 39 = .ok (.invokevirtual 147, 3) := by decide +kernel
theorem dX10_price_42 : decode cX10_price 42 = .ok (.ireturn, 1) := by decide +kernel
theorem dX10_price_43 : decode cX10_price 43 = .ok (.aload_n 0, 1) := by decide +kernel
theorem dX10_price_44 : decode cX10_price 44 = .ok (.iload_n 1, 1) := by decide +kernel
theorem dX10_price_45 : decode cX10_price 45 = .ok (.iload_n 2, 1) := by decide +kernel
theorem dX10_price_46 : decode cX10_price 46 = .ok (.iload_n 3, 1) := by decide +kernel
theorem dX10_price_47 : decode cX10_price 47 = .ok (.invokevirtual 177, 3) := by decide +kernel
theorem dX10_price_50 : decode cX10_price 50 = .ok (.aload_n 0, 1) := by decide +kernel
theorem dX10_price_51 : decode cX10_price 51 = .ok (.getfield 41, 3) := by decide +kernel
theorem dX10_price_54 : decode cX10_price 54 = .ok (.iload 4, 2) := by decide +kernel
theorem dX10_price_56 : decode cX10_price 56 = .ok (.baload, 1) := by decide +kernel
theorem dX10_price_57 : decode cX10_price 57 = .ok (.ifCond .eq 10, 3) := by decide +kernel
theorem dX10_price_60 : decode cX10_price 60 = .ok (.aload_n 0, 1) := by decide +kernel
theorem dX10_price_61 : decode cX10_price 61 = .ok (.invokevirtual 181, 3) := by decide +kernel
theorem dX10_price_64 : decode cX10_price 64 = .ok (.ifCond .ge 9, 3) := by decide +kernel
theorem dX10_price_67 : decode cX10_price 67 = .ok (.aload_n 0, 1) := by decide +kernel
theorem dX10_price_68 : decode cX10_price 68 = .ok (.iconst 2, 1) := by decide +kernel
theorem dX10_price_69 : decode cX10_price 69 = .ok (.invokevirtual 147, 3) := by decide +kernel
theorem dX10_price_72 : decode cX10_price 72 = .ok (.ireturn, 1) := by decide +kernel
theorem dX10_price_73 : decode cX10_price 73 = .ok (.aload_n 0, 1) := by decide +kernel
theorem dX10_price_74 : decode cX10_price 74 = .ok (.invokevirtual 185, 3) := by decide +kernel
theorem dX10_price_77 : decode cX10_price 77 = .ok (.aload_n 0, 1) := by decide +kernel
theorem dX10_price_78 : decode cX10_price 78 = .ok (.getfield 48, 3) := by decide +kernel
theorem dX10_price_81 : decode cX10_price 81 = .ok (.iload 4, 2) := by decide +kernel
theorem dX10_price_83 : decode cX10_price 83 = .ok (.iaload, 1) := by decide +kernel
theorem dX10_price_84 : decode cX10_price 84 = .ok (.ireturn, 1) := by decide +kernel
theorem dX10_honest_0 : decode cX10_honest 0 = .ok (.iload_n 1, 1) := by decide +kernel
theorem dX10_honest_1 : decode cX10_honest 1 = .ok (.aload_n 0, 1) := by decide +kernel
theorem dX10_honest_2 : decode cX10_honest 2 = .ok (.getfield 116, 3) := by decide +kernel
theorem dX10_honest_5 : decode cX10_honest 5 = .ok (.invokestatic 119, 3) := by decide +kernel
theorem dX10_honest_8 : decode cX10_honest 8 = .ok (.ifCond .ne 5, 3) := by decide +kernel
theorem dX10_honest_11 : decode cX10_honest 11 = .ok (.iconst (-1), 1) := by decide +kernel
theorem dX10_honest_12 : decode cX10_honest 12 = .ok (.ireturn, 1) := by decide +kernel
theorem dX10_honest_13 : decode cX10_honest 13 = .ok (.aload_n 0, 1) := by decide +kernel
theorem dX10_honest_14 : decode cX10_honest 14 = .ok (.getfield 116, 3) := by decide +kernel
theorem dX10_honest_17 : decode cX10_honest 17 = .ok (.bipush 8, 2) := by decide +kernel
theorem dX10_honest_19 : decode cX10_honest 19 = .ok (.if_icmp .ne 6, 3) := by decide +kernel
theorem dX10_honest_22 : decode cX10_honest 22 = .ok (.bipush (-2), 2) := by decide +kernel
theorem dX10_honest_24 : decode cX10_honest 24 = .ok (.ireturn, 1) := by decide +kernel
theorem dX10_honest_25 : decode cX10_honest 25 = .ok (.aload_n 0, 1) := by decide +kernel
theorem dX10_honest_26 : decode cX10_honest 26 = .ok (.iload_n 1, 1) := by decide +kernel
theorem dX10_honest_27 : decode cX10_honest 27 = .ok (.iconst 0, 1) := by decide +kernel
theorem dX10_honest_28 : decode cX10_honest 28 = .ok (.invokevirtual 188, 3) := by decide +kernel
theorem dX10_honest_31 : decode cX10_honest 31 = .ok (.bipush (-2), 2) := by decide +kernel
theorem dX10_honest_33 : decode cX10_honest 33 = .ok (.if_icmp .eq 6, 3) := by decide +kernel
theorem dX10_honest_36 : decode cX10_honest 36 = .ok (.bipush (-3), 2) := by decide +kernel
theorem dX10_honest_38 : decode cX10_honest 38 = .ok (.ireturn, 1) := by decide +kernel
theorem dX10_honest_39 : decode cX10_honest 39 = .ok (.aload_n 0, 1) := by decide +kernel
theorem dX10_honest_40 : decode cX10_honest 40 = .ok (.iconst 1, 1) := by decide +kernel
theorem dX10_honest_41 : decode cX10_honest 41 = .ok (.invokevirtual 190, 3) := by decide +kernel
theorem dX10_honest_44 : decode cX10_honest 44 = .ok (.istore_n 2, 1) := by decide +kernel
theorem dX10_honest_45 : decode cX10_honest 45 = .ok (.iconst 0, 1) := by decide +kernel
theorem dX10_honest_46 : decode cX10_honest 46 = .ok (.istore_n 3, 1) := by decide +kernel
theorem dX10_honest_47 : decode cX10_honest 47 = .ok (.iload_n 3, 1) := by decide +kernel
theorem dX10_honest_48 : decode cX10_honest 48 = .ok (.aload_n 0, 1) := by decide +kernel
theorem dX10_honest_49 : decode cX10_honest 49 = .ok (.getfield 113, 3) := by decide +kernel
theorem dX10_honest_52 : decode cX10_honest 52 = .ok (.if_icmp .ge 85, 3) := by decide +kernel
theorem dX10_honest_55 : decode cX10_honest 55 = .ok (.aload_n 0, 1) := by decide +kernel
theorem dX10_honest_56 : decode cX10_honest 56 = .ok (.iload_n 1, 1) := by decide +kernel
theorem dX10_honest_57 : decode cX10_honest 57 = .ok (.iload_n 3, 1) := by decide +kernel
theorem dX10_honest_58 : decode cX10_honest 58 = .ok (.invokevirtual 144, 3) := by decide +kernel
theorem dX10_honest_61 : decode cX10_honest 61 = .ok (.istore 4, 2) := by decide +kernel
theorem dX10_honest_63 : decode cX10_honest 63 = .ok (.aload_n 0, 1) := by decide +kernel
theorem dX10_honest_64 : decode cX10_honest 64 = .ok (.getfield 19, 3) := by decide +kernel
theorem dX10_honest_67 : decode cX10_honest 67 = .ok (.sipush 1296, 3) := by decide +kernel
theorem dX10_honest_70 : decode cX10_honest 70 = .ok (.iload_n 2, 1) := by decide +kernel
theorem dX10_honest_71 : decode cX10_honest 71 = .ok (.imul, 1) := by decide +kernel
theorem dX10_honest_72 : decode cX10_honest 72 = .ok (.iload_n 3, 1) := by decide +kernel
theorem dX10_honest_73 : decode cX10_honest 73 = .ok (.iadd, 1) := by decide +kernel
theorem dX10_honest_74 : decode cX10_honest 74 = .ok (.iload 4, 2) := by decide +kernel
theorem dX10_honest_76 : decode cX10_honest 76 = .ok (.iastore, 1) := by decide +kernel
theorem dX10_honest_77 : decode cX10_honest 77 = .ok (.iconst 0, 1) := by decide +kernel
theorem dX10_honest_78 : decode cX10_honest 78 = .ok (.istore 5, 2) := by decide +kernel
theorem dX10_honest_80 : decode cX10_honest 80 = .ok (.iload 5, 2) := by decide +kernel
theorem dX10_honest_82 : decode cX10_honest 82 = .ok (.aload_n 0, 1) := by decide +kernel
theorem dX10_honest_83 : decode cX10_honest 83 = .ok (.getfield 97, 3) := by decide +kernel
theorem dX10_honest_86 : decode cX10_honest 86 = .ok (.if_icmp .ge 45, 3) := by decide +kernel
theorem dX10_honest_89 : decode cX10_honest 89 = .ok (.aload_n 0, 1) := by decide +kernel
theorem dX10_honest_90 : decode cX10_honest 90 = .ok (.iload_n 1, 1) := by decide +kernel
theorem dX10_honest_91 : decode cX10_honest 91 = .ok (.iload_n 3, 1) := by decide +kernel
theorem dX10_honest_92 : decode cX10_honest 92 = .ok (.iload 5, 2) := by decide +kernel
theorem dX10_honest_94 : decode cX10_honest 94 = .ok (.invokevirtual 177, 3) := by decide +kernel
theorem dX10_honest_97 : decode cX10_honest 97 = .ok (.aload_n 0, 1) := by decide +kernel
theorem dX10_honest_98 : decode cX10_honest 98 = .ok (.invokevirtual 185, 3) := by decide +kernel
theorem dX10_honest_101 : decode cX10_honest 101 = .ok (.aload_n 0, 1) := by decide +kernel
theorem dX10_honest_102 : decode cX10_honest 102 = .ok (.getfield 23, 3) := by decide +kernel
theorem dX10_honest_105 : decode cX10_honest 105 = .ok (.iconst 4, 1) := by decide +kernel
theorem dX10_honest_106 : decode cX10_honest 106 = .ok (.sipush 1296, 3) := by decide +kernel
theorem dX10_honest_109 : decode cX10_honest 109 = .ok (.iload_n 2, 1) := by decide +kernel
theorem dX10_honest_110 : decode cX10_honest 110 = .ok (.imul, 1) := by decide +kernel
theorem dX10_honest_111 : decode cX10_honest 111 = .ok (.iload_n 3, 1) := by decide +kernel
theorem dX10_honest_112 : decode cX10_honest 112 = .ok (.iadd, 1) := by decide +kernel
theorem dX10_honest_113 : decode cX10_honest 113 = .ok (.imul, 1) := by decide +kernel
theorem dX10_honest_114 : decode cX10_honest 114 = .ok (.iload 5, 2) := by decide +kernel
theorem dX10_honest_116 : decode cX10_honest 116 = .ok (.iadd, 1) := by decide +kernel
theorem dX10_honest_117 : decode cX10_honest 117 = .ok (.aload_n 0, 1) := by decide +kernel
theorem dX10_honest_118 : decode cX10_honest 118 = .ok (.getfield 48, 3) := by decide +kernel
theorem dX10_honest_121 : decode cX10_honest 121 = .ok (.iload 4, 2) := by decide +kernel
theorem dX10_honest_123 : decode cX10_honest 123 = .ok (.iaload, 1) := by decide +kernel
theorem dX10_honest_124 : decode cX10_honest 124 = .ok (.iastore, 1) := by decide +kernel
theorem dX10_honest_125 : decode cX10_honest 125 = .ok (.iinc 5 1, 3) := by decide +kernel
theorem dX10_honest_128 : decode cX10_honest 128 = .ok (.goto (-48), 3) := by decide +kernel
theorem dX10_honest_131 : decode cX10_honest 131 = .ok (.iinc 3 1, 3) := by decide +kernel
theorem dX10_honest_134 : decode cX10_honest 134 = .ok (.goto (-87), 3) := by decide +kernel
theorem dX10_honest_137 : decode cX10_honest 137 = .ok (.iload_n 2, 1) := by decide +kernel
theorem dX10_honest_138 : decode cX10_honest 138 = .ok (.ireturn, 1) := by decide +kernel
theorem dX10_same_0 : decode cX10_same 0 = .ok (.iload_n 1, 1) := by decide +kernel
theorem dX10_same_1 : decode cX10_same 1 = .ok (.aload_n 0, 1) := by decide +kernel
theorem dX10_same_2 : decode cX10_same 2 = .ok (.getfield 116, 3) := by decide +kernel
theorem dX10_same_5 : decode cX10_same 5 = .ok (.invokestatic 119, 3) := by decide +kernel
theorem dX10_same_8 : decode cX10_same 8 = .ok (.ifCond .eq 14, 3) := by decide +kernel
theorem dX10_same_11 : decode cX10_same 11 = .ok (.iload_n 2, 1) := by decide +kernel
theorem dX10_same_12 : decode cX10_same 12 = .ok (.aload_n 0, 1) := by decide +kernel
theorem dX10_same_13 : decode cX10_same 13 = .ok (.getfield 116, 3) := by decide +kernel
theorem dX10_same_16 : decode cX10_same 16 = .ok (.invokestatic 119, 3) := by decide +kernel
theorem dX10_same_19 : decode cX10_same 19 = .ok (.ifCond .ne 5, 3) := by decide +kernel
theorem dX10_same_22 : decode cX10_same 22 = .ok (.iconst (-1), 1) := by decide +kernel
theorem dX10_same_23 : decode cX10_same 23 = .ok (.ireturn, 1) := by decide +kernel
theorem dX10_same_24 : decode cX10_same 24 = .ok (.iconst 1, 1) := by decide +kernel
theorem dX10_same_25 : decode cX10_same 25 = .ok (.istore_n 3, 1) := by decide +kernel
theorem dX10_same_26 : decode cX10_same 26 = .ok (.iconst 0, 1) := by decide +kernel
theorem dX10_same_27 : decode cX10_same 27 = .ok (.istore 4, 2) := by decide +kernel
theorem dX10_same_29 : decode cX10_same 29 = .ok (.iload 4, 2) := by decide +kernel
theorem dX10_same_31 : decode cX10_same 31 = .ok (.aload_n 0, 1) := by decide +kernel
theorem dX10_same_32 : decode cX10_same 32 = .ok (.getfield 113, 3) := by decide +kernel
theorem dX10_same_35 : decode cX10_same 35 = .ok (.if_icmp .ge 85, 3) := by decide +kernel
theorem dX10_same_38 : decode cX10_same 38 = .ok (.iload_n 3, 1) := by decide +kernel
theorem dX10_same_39 : decode cX10_same 39 = .ok (.ifCond .eq 81, 3) := by decide +kernel
theorem dX10_same_42 : decode cX10_same 42 = .ok (.aload_n 0, 1) := by decide +kernel
theorem dX10_same_43 : decode cX10_same 43 = .ok (.iload_n 1, 1) := by decide +kernel
theorem dX10_same_44 : decode cX10_same 44 = .ok (.iload 4, 2) := by decide +kernel
theorem dX10_same_46 : decode cX10_same 46 = .ok (.invokevirtual 144, 3) := by decide +kernel
theorem dX10_same_49 : decode cX10_same 49 = .ok (.aload_n 0, 1) := by decide +kernel
theorem dX10_same_50 : decode cX10_same 50 = .ok (.iload_n 2, 1) := by decide +kernel
theorem dX10_same_51 : decode cX10_same 51 = .ok (.iload 4, 2) := by decide +kernel
theorem dX10_same_53 : decode cX10_same 53 = .ok (.invokevirtual 144, 3) := by decide +kernel
theorem dX10_same_56 : decode cX10_same 56 = .ok (.if_icmp .ne 7, 3) := by decide +kernel
theorem dX10_same_59 : decode cX10_same 59 = .ok (.iconst 1, 1) := by decide +kernel
theorem dX10_same_60 : decode cX10_same 60 = .ok (.goto 4, 3) := by decide +kernel
theorem dX10_same_63 : decode cX10_same 63 = .ok (.iconst 0, 1) := by decide +kernel
theorem dX10_same_64 : decode cX10_same 64 = .ok (.istore_n 3, 1) := by decide +kernel
theorem dX10_same_65 : decode cX10_same 65 = .ok (.iconst 0, 1) := by decide +kernel
theorem dX10_same_66 : decode cX10_same 66 = .ok (.istore 5, 2) := by decide +kernel
theorem dX10_same_68 : decode cX10_same 68 = .ok (.iload 5, 2) := by decide +kernel
theorem dX10_same_70 : decode cX10_same 70 = .ok (.aload_n 0, 1) := by decide +kernel
theorem dX10_same_71 : decode cX10_same 71 = .ok (.getfield 97, 3) := by decide +kernel
theorem dX10_same_74 : decode cX10_same 74 = .ok (.if_icmp .ge 40, 3) := by decide +kernel
theorem dX10_same_77 : decode cX10_same 77 = .ok (.iload_n 3, 1) := by decide +kernel
theorem dX10_same_78 : decode cX10_same 78 = .ok (.ifCond .eq 36, 3) := by decide +kernel
theorem dX10_same_81 : decode cX10_same 81 = .ok (.aload_n 0, 1) := by decide +kernel
theorem dX10_same_82 : decode cX10_same 82 = .ok (.iload_n 1, 1) := by decide +kernel
theorem dX10_same_83 : decode cX10_same 83 = .ok (.iload 4, 2) := by decide +kernel
theorem dX10_same_85 : decode cX10_same 85 = .ok (.iload 5, 2) := by decide +kernel
theorem dX10_same_87 : decode cX10_same 87 = .ok (.invokevirtual 150, 3) := by decide +kernel
theorem dX10_same_90 : decode cX10_same 90 = .ok (.aload_n 0, 1) := by decide +kernel
theorem dX10_same_91 : decode cX10_same 91 = .ok (.iload_n 2, 1) := by decide +kernel
theorem dX10_same_92 : decode cX10_same 92 = .ok (.iload 4, 2) := by decide +kernel
theorem dX10_same_94 : decode cX10_same 94 = .ok (.iload 5, 2) := by decide +kernel
theorem dX10_same_96 : decode cX10_same 96 = .ok (.invokevirtual 150, 3) := by decide +kernel
theorem dX10_same_99 : decode cX10_same 99 = .ok (.if_icmp .ne 7, 3) := by decide +kernel
theorem dX10_same_102 : decode cX10_same 102 = .ok (.iconst 1, 1) := by decide +kernel
theorem dX10_same_103 : decode cX10_same 103 = .ok (.goto 4, 3) := by decide +kernel
theorem dX10_same_106 : decode cX10_same 106 = .ok (.iconst 0, 1) := by decide +kernel
theorem dX10_same_107 : decode cX10_same 107 = .ok (.istore_n 3, 1) := by decide +kernel
theorem dX10_same_108 : decode cX10_same 108 = .ok (.iinc 5 1, 3) := by decide +kernel
theorem dX10_same_111 : decode cX10_same 111 = .ok (.goto (-43), 3) := by decide +kernel
theorem dX10_same_114 : decode cX10_same 114 = .ok (.iinc 4 1, 3) := by decide +kernel
theorem dX10_same_117 : decode cX10_same 117 = .ok (.goto (-88), 3) := by decide +kernel
theorem dX10_same_120 : decode cX10_same 120 = .ok (.iload_n 3, 1) := by decide +kernel
theorem dX10_same_121 : decode cX10_same 121 = .ok (.ifCond .eq 7, 3) := by decide +kernel
theorem dX10_same_124 : decode cX10_same 124 = .ok (.iconst 1, 1) := by decide +kernel
theorem dX10_same_125 : decode cX10_same 125 = .ok (.goto 4, 3) := by decide +kernel
theorem dX10_same_128 : decode cX10_same 128 = .ok (.iconst 0, 1) := by decide +kernel
theorem dX10_same_129 : decode cX10_same 129 = .ok (.ireturn, 1) := by decide +kernel
theorem dX10_fair_0 : decode cX10_fair 0 = .ok (.iload_n 1, 1) := by decide +kernel
theorem dX10_fair_1 : decode cX10_fair 1 = .ok (.aload_n 0, 1) := by decide +kernel
theorem dX10_fair_2 : decode cX10_fair 2 = .ok (.getfield 116, 3) := by decide +kernel
theorem dX10_fair_5 : decode cX10_fair 5 = .ok (.invokestatic 119, 3) := by decide +kernel
theorem dX10_fair_8 : decode cX10_fair 8 = .ok (.ifCond .ne 5, 3) := by decide +kernel
theorem dX10_fair_11 : decode cX10_fair 11 = .ok (.iconst (-1), 1) := by decide +kernel
theorem dX10_fair_12 : decode cX10_fair 12 = .ok (.ireturn, 1) := by decide +kernel
theorem dX10_fair_13 : decode cX10_fair 13 = .ok (.iconst 1, 1) := by decide +kernel
theorem dX10_fair_14 : decode cX10_fair 14 = .ok (.istore_n 2, 1) := by decide +kernel
theorem dX10_fair_15 : decode cX10_fair 15 = .ok (.iconst 0, 1) := by decide +kernel
theorem dX10_fair_16 : decode cX10_fair 16 = .ok (.istore_n 3, 1) := by decide +kernel
theorem dX10_fair_17 : decode cX10_fair 17 = .ok (.iload_n 3, 1) := by decide +kernel
theorem dX10_fair_18 : decode cX10_fair 18 = .ok (.aload_n 0, 1) := by decide +kernel
theorem dX10_fair_19 : decode cX10_fair 19 = .ok (.getfield 113, 3) := by decide +kernel
theorem dX10_fair_22 : decode cX10_fair 22 = .ok (.if_icmp .ge 92, 3) := by decide +kernel
theorem dX10_fair_25 : decode cX10_fair 25 = .ok (.iload_n 2, 1) := by decide +kernel
theorem dX10_fair_26 : decode cX10_fair 26 = .ok (.ifCond .eq 88, 3) := by decide +kernel
theorem dX10_fair_29 : decode cX10_fair 29 = .ok (.iconst 0, 1) := by decide +kernel
theorem dX10_fair_30 : decode cX10_fair 30 = .ok (.istore 4, 2) := by decide +kernel
theorem dX10_fair_32 : decode cX10_fair 32 = .ok (.iload 4, 2) := by decide +kernel
theorem dX10_fair_34 : decode cX10_fair 34 = .ok (.iconst 1, 1) := by decide +kernel
theorem dX10_fair_35 : decode cX10_fair 35 = .ok (.iadd, 1) := by decide +kernel
theorem dX10_fair_36 : decode cX10_fair 36 = .ok (.aload_n 0, 1) := by decide +kernel
theorem dX10_fair_37 : decode cX10_fair 37 = .ok (.getfield 97, 3) := by decide +kernel
theorem dX10_fair_40 : decode cX10_fair 40 = .ok (.if_icmp .ge 68, 3) := by decide +kernel
theorem dX10_fair_43 : decode cX10_fair 43 = .ok (.iload_n 2, 1) := by decide +kernel
theorem dX10_fair_44 : decode cX10_fair 44 = .ok (.ifCond .eq 64, 3) := by decide +kernel
theorem dX10_fair_47 : decode cX10_fair 47 = .ok (.aload_n 0, 1) := by decide +kernel
theorem dX10_fair_48 : decode cX10_fair 48 = .ok (.aload_n 0, 1) := by decide +kernel
theorem dX10_fair_49 : decode cX10_fair 49 = .ok (.iload_n 3, 1) := by decide +kernel
theorem dX10_fair_50 : decode cX10_fair 50 = .ok (.iload 4, 2) := by decide +kernel
theorem dX10_fair_52 : decode cX10_fair 52 = .ok (.aload_n 0, 1) := by decide +kernel
theorem dX10_fair_53 : decode cX10_fair 53 = .ok (.iload_n 3, 1) := by decide +kernel
theorem dX10_fair_54 : decode cX10_fair 54 = .ok (.iload 4, 2) := by decide +kernel
theorem dX10_fair_56 : decode cX10_fair 56 = .ok (.iconst 1, 1) := by decide +kernel
theorem dX10_fair_57 : decode cX10_fair 57 = .ok (.iadd, 1) := by decide +kernel
theorem dX10_fair_58 : decode cX10_fair 58 = .ok (.invokevirtual 126, 3) := by decide +kernel
theorem dX10_fair_61 : decode cX10_fair 61 = .ok (.invokevirtual 153, 3) := by decide +kernel
theorem dX10_fair_64 : decode cX10_fair 64 = .ok (.iload 4, 2) := by decide +kernel
theorem dX10_fair_66 : decode cX10_fair 66 = .ok (.iconst 1, 1) := by decide +kernel
theorem dX10_fair_67 : decode cX10_fair 67 = .ok (.iadd, 1) := by decide +kernel
theorem dX10_fair_68 : decode cX10_fair 68 = .ok (.aload_n 0, 1) := by decide +kernel
theorem dX10_fair_69 : decode cX10_fair 69 = .ok (.iload_n 3, 1) := by decide +kernel
theorem dX10_fair_70 : decode cX10_fair 70 = .ok (.iload 4, 2) := by decide +kernel
theorem dX10_fair_72 : decode cX10_fair 72 = .ok (.invokevirtual 126, 3) := by decide +kernel
theorem dX10_fair_75 : decode cX10_fair 75 = .ok (.invokevirtual 153, 3) := by decide +kernel
theorem dX10_fair_78 : decode cX10_fair 78 = .ok (.istore 5, 2) := by decide +kernel
theorem dX10_fair_80 : decode cX10_fair 80 = .ok (.aload_n 0, 1) := by decide +kernel
theorem dX10_fair_81 : decode cX10_fair 81 = .ok (.iload_n 1, 1) := by decide +kernel
theorem dX10_fair_82 : decode cX10_fair 82 = .ok (.iload 5, 2) := by decide +kernel
theorem dX10_fair_84 : decode cX10_fair 84 = .ok (.invokevirtual 144, 3) := by decide +kernel
theorem dX10_fair_87 : decode cX10_fair 87 = .ok (.aload_n 0, 1) := by decide +kernel
theorem dX10_fair_88 : decode cX10_fair 88 = .ok (.iload_n 1, 1) := by decide +kernel
theorem dX10_fair_89 : decode cX10_fair 89 = .ok (.iload_n 3, 1) := by decide +kernel
theorem dX10_fair_90 : decode cX10_fair 90 = .ok (.invokevirtual 144, 3) := by decide +kernel
theorem dX10_fair_93 : decode cX10_fair 93 = .ok (.if_icmp .ne 7, 3) := by decide +kernel
theorem dX10_fair_96 : decode cX10_fair 96 = .ok (.iconst 1, 1) := by decide +kernel
theorem dX10_fair_97 : decode cX10_fair 97 = .ok (.goto 4, 3) := by decide +kernel
theorem dX10_fair_100 : decode cX10_fair 100 = .ok (.iconst 0, 1) := by decide +kernel
theorem dX10_fair_101 : decode cX10_fair 101 = .ok (.istore_n 2, 1) := by decide +kernel
theorem dX10_fair_102 : decode cX10_fair 102 = .ok (.iinc 4 1, 3) := by decide +kernel
theorem dX10_fair_105 : decode cX10_fair 105 = .ok (.goto (-73), 3) := by decide +kernel
theorem dX10_fair_108 : decode cX10_fair 108 = .ok (.iinc 3 1, 3) := by decide +kernel
theorem dX10_fair_111 : decode cX10_fair 111 = .ok (.goto (-94), 3) := by decide +kernel
theorem dX10_fair_114 : decode cX10_fair 114 = .ok (.iload_n 2, 1) := by decide +kernel
theorem dX10_fair_115 : decode cX10_fair 115 = .ok (.ifCond .eq 7, 3) := by decide +kernel
theorem dX10_fair_118 : decode cX10_fair 118 = .ok (.iconst 1, 1) := by decide +kernel
theorem dX10_fair_119 : decode cX10_fair 119 = .ok (.goto 4, 3) := by decide +kernel
theorem dX10_fair_122 : decode cX10_fair 122 = .ok (.iconst 0, 1) := by decide +kernel
theorem dX10_fair_123 : decode cX10_fair 123 = .ok (.ireturn, 1) := by decide +kernel
theorem dX10_digits_0 : decode cX10_digits 0 = .ok (.iload_n 1, 1) := by decide +kernel
theorem dX10_digits_1 : decode cX10_digits 1 = .ok (.ifCond .ge 5, 3) := by decide +kernel
theorem dX10_digits_4 : decode cX10_digits 4 = .ok (.iconst 0, 1) := by decide +kernel
theorem dX10_digits_5 : decode cX10_digits 5 = .ok (.ireturn, 1) := by decide +kernel
theorem dX10_digits_6 : decode cX10_digits 6 = .ok (.iload_n 1, 1) := by decide +kernel
theorem dX10_digits_7 : decode cX10_digits 7 = .ok (.istore_n 3, 1) := by decide +kernel
theorem dX10_digits_8 : decode cX10_digits 8 = .ok (.iconst 0, 1) := by decide +kernel
theorem dX10_digits_9 : decode cX10_digits 9 = .ok (.istore 4, 2) := by decide +kernel
theorem dX10_digits_11 : decode cX10_digits 11 = .ok (.aload_n 0, 1) := by decide +kernel
theorem dX10_digits_12 : decode cX10_digits 12 = .ok (.getfield 97, 3) := by decide +kernel
theorem dX10_digits_15 : decode cX10_digits 15 = .ok (.iconst 1, 1) := by decide +kernel
theorem dX10_digits_16 : decode cX10_digits 16 = .ok (.isub, 1) := by decide +kernel
theorem dX10_digits_17 : decode cX10_digits 17 = .ok (.istore 5, 2) := by decide +kernel
theorem dX10_digits_19 : decode cX10_digits 19 = .ok (.iload 5, 2) := by decide +kernel
theorem dX10_digits_21 : decode cX10_digits 21 = .ok (.ifCond .lt 59, 3) := by decide +kernel
theorem dX10_digits_24 : decode cX10_digits 24 = .ok (.aload_n 2, 1) := by decide +kernel
theorem dX10_digits_25 : decode cX10_digits 25 = .ok (.iload 5, 2) := by decide +kernel
theorem dX10_digits_27 : decode cX10_digits 27 = .ok (.iload_n 3, 1) := by decide +kernel
theorem dX10_digits_28 : decode cX10_digits 28 = .ok (.bipush 10, 2) := by decide +kernel
theorem dX10_digits_30 : decode cX10_digits 30 = .ok (.irem, 1) := by decide +kernel
theorem dX10_digits_31 : decode cX10_digits 31 = .ok (.iastore, 1) := by decide +kernel
theorem dX10_digits_32 : decode cX10_digits 32 = .ok (.aload_n 2, 1) := by decide +kernel
theorem dX10_digits_33 : decode cX10_digits 33 = .ok (.iload 5, 2) := by decide +kernel
theorem dX10_digits_35 : decode cX10_digits 35 = .ok (.iaload, 1) := by decide +kernel
theorem dX10_digits_36 : decode cX10_digits 36 = .ok (.aload_n 0, 1) := by decide +kernel
theorem dX10_digits_37 : decode cX10_digits 37 = .ok (.getfield 97, 3) := by decide +kernel
theorem dX10_digits_40 : decode cX10_digits 40 = .ok (.if_icmp .ge 16, 3) := by decide +kernel
theorem dX10_digits_43 : decode cX10_digits 43 = .ok (.iload 4, 2) := by decide +kernel
theorem dX10_digits_45 : decode cX10_digits 45 = .ok (.aload_n 2, 1) := by decide +kernel
theorem dX10_digits_46 : decode cX10_digits 46 = .ok (.iload 5, 2) := by decide +kernel
theorem dX10_digits_48 : decode cX10_digits 48 = .ok (.iaload, 1) := by decide +kernel
theorem dX10_digits_49 : decode cX10_digits 49 = .ok (.ishr, 1) := by decide +kernel
theorem dX10_digits_50 : decode cX10_digits 50 = .ok (.iconst 1, 1) := by decide +kernel
theorem dX10_digits_51 : decode cX10_digits 51 = .ok (.iand, 1) := by decide +kernel
theorem dX10_digits_52 : decode cX10_digits 52 = .ok (.iconst 1, 1) := by decide +kernel
theorem dX10_digits_53 : decode cX10_digits 53 = .ok (.if_icmp .ne 5, 3) := by decide +kernel
theorem dX10_digits_56 : decode cX10_digits 56 = .ok (.iconst 0, 1) := by decide +kernel
theorem dX10_digits_57 : decode cX10_digits 57 = .ok (.ireturn, 1) := by decide +kernel
theorem dX10_digits_58 : decode cX10_digits 58 = .ok (.iload 4, 2) := by decide +kernel
theorem dX10_digits_60 : decode cX10_digits 60 = .ok (.iconst 1, 1) := by decide +kernel
theorem dX10_digits_61 : decode cX10_digits 61 = .ok (.aload_n 2, 1) := by decide +kernel
theorem dX10_digits_62 : decode cX10_digits 62 = .ok (.iload 5, 2) := by decide +kernel
theorem dX10_digits_64 : decode cX10_digits 64 = .ok (.iaload, 1) := by decide +kernel
theorem dX10_digits_65 : decode cX10_digits 65 = .ok (.ishl, 1) := by decide +kernel
theorem dX10_digits_66 : decode cX10_digits 66 = .ok (.ior, 1) := by decide +kernel
theorem dX10_digits_67 : decode cX10_digits 67 = .ok (.istore 4, 2) := by decide +kernel
theorem dX10_digits_69 : decode cX10_digits 69 = .ok (.iload_n 3, 1) := by decide +kernel
theorem dX10_digits_70 : decode cX10_digits 70 = .ok (.bipush 10, 2) := by decide +kernel
theorem dX10_digits_72 : decode cX10_digits 72 = .ok (.idiv, 1) := by decide +kernel
theorem dX10_digits_73 : decode cX10_digits 73 = .ok (.istore_n 3, 1) := by decide +kernel
theorem dX10_digits_74 : decode cX10_digits 74 = .ok (.iinc 5 (-1), 3) := by decide +kernel
theorem dX10_digits_77 : decode cX10_digits 77 = .ok (.goto (-58), 3) := by decide +kernel
theorem dX10_digits_80 : decode cX10_digits 80 = .ok (.iload_n 3, 1) := by decide +kernel
theorem dX10_digits_81 : decode cX10_digits 81 = .ok (.ifCond .ne 7, 3) := by decide +kernel
theorem dX10_digits_84 : decode cX10_digits 84 = .ok (.iconst 1, 1) := by decide +kernel
theorem dX10_digits_85 : decode cX10_digits 85 = .ok (.goto 4, 3) := by decide +kernel
theorem dX10_digits_88 : decode cX10_digits 88 = .ok (.iconst 0, 1) := by decide +kernel
theorem dX10_digits_89 : decode cX10_digits 89 = .ok (.ireturn, 1) := by decide +kernel
theorem dX10_code_0 : decode cX10_code 0 = .ok (.iconst 0, 1) := by decide +kernel
theorem dX10_code_1 : decode cX10_code 1 = .ok (.istore_n 2, 1) := by decide +kernel
theorem dX10_code_2 : decode cX10_code 2 = .ok (.iconst 0, 1) := by decide +kernel
theorem dX10_code_3 : decode cX10_code 3 = .ok (.istore_n 3, 1) := by decide +kernel
theorem dX10_code_4 : decode cX10_code 4 = .ok (.iload_n 3, 1) := by decide +kernel
theorem dX10_code_5 : decode cX10_code 5 = .ok (.aload_n 0, 1) := by decide +kernel
theorem dX10_code_6 : decode cX10_code 6 = .ok (.getfield 97, 3) := by decide +kernel
theorem dX10_code_9 : decode cX10_code 9 = .ok (.if_icmp .ge 18, 3) := by decide +kernel
theorem dX10_code_12 : decode cX10_code 12 = .ok (.bipush 10, 2) := by decide +kernel
theorem dX10_code_14 : decode cX10_code 14 = .ok (.iload_n 2, 1) := by decide +kernel
theorem dX10_code_15 : decode cX10_code 15 = .ok (.imul, 1) := by decide +kernel
theorem dX10_code_16 : decode cX10_code 16 = .ok (.aload_n 1, 1) := by decide +kernel
theorem dX10_code_17 : decode cX10_code 17 = .ok (.iload_n 3, 1) := by decide +kernel
theorem dX10_code_18 : decode cX10_code 18 = .ok (.iaload, 1) := by decide +kernel
theorem dX10_code_19 : decode cX10_code 19 = .ok (.iadd, 1) := by decide +kernel
theorem dX10_code_20 : decode cX10_code 20 = .ok (.istore_n 2, 1) := by decide +kernel
theorem dX10_code_21 : decode cX10_code 21 = .ok (.iinc 3 1, 3) := by decide +kernel
theorem dX10_code_24 : decode cX10_code 24 = .ok (.goto (-20), 3) := by decide +kernel
theorem dX10_code_27 : decode cX10_code 27 = .ok (.iload_n 2, 1) := by decide +kernel
theorem dX10_code_28 : decode cX10_code 28 = .ok (.ireturn, 1) := by decide +kernel
theorem dX10_place_0 : decode cX10_place 0 = .ok (.iconst 0, 1) := by decide +kernel
theorem dX10_place_1 : decode cX10_place 1 = .ok (.istore_n 3, 1) := by decide +kernel
theorem dX10_place_2 : decode cX10_place 2 = .ok (.aload_n 0, 1) := by decide +kernel
theorem dX10_place_3 : decode cX10_place 3 = .ok (.getfield 51, 3) := by decide +kernel
theorem dX10_place_6 : decode cX10_place 6 = .ok (.iconst 4, 1) := by decide +kernel
theorem dX10_place_7 : decode cX10_place 7 = .ok (.iload_n 1, 1) := by decide +kernel
theorem dX10_place_8 : decode cX10_place 8 = .ok (.imul, 1) := by decide +kernel
theorem dX10_place_9 : decode cX10_place 9 = .ok (.iload_n 3, 1) := by decide +kernel
theorem dX10_place_10 : decode cX10_place 10 = .ok (.iadd, 1) := by decide +kernel
theorem dX10_place_11 : decode cX10_place 11 = .ok (.iaload, 1) := by decide +kernel
theorem dX10_place_12 : decode cX10_place 12 = .ok (.iload_n 2, 1) := by decide +kernel
theorem dX10_place_13 : decode cX10_place 13 = .ok (.if_icmp .eq 9, 3) := by decide +kernel
theorem dX10_place_16 : decode cX10_place 16 = .ok (.iinc 3 1, 3) := by decide +kernel
theorem dX10_place_19 : decode cX10_place 19 = .ok (.goto (-17), 3) := by decide +kernel
theorem dX10_place_22 : decode cX10_place 22 = .ok (.iload_n 3, 1) := by decide +kernel
theorem dX10_place_23 : decode cX10_place 23 = .ok (.ireturn, 1) := by decide +kernel
theorem dX10_likes_0 : decode cX10_likes 0 = .ok (.iload_n 1, 1) := by decide +kernel
theorem dX10_likes_1 : decode cX10_likes 1 = .ok (.aload_n 0, 1) := by decide +kernel
theorem dX10_likes_2 : decode cX10_likes 2 = .ok (.getfield 97, 3) := by decide +kernel
theorem dX10_likes_5 : decode cX10_likes 5 = .ok (.invokestatic 119, 3) := by decide +kernel
theorem dX10_likes_8 : decode cX10_likes 8 = .ok (.ifCond .eq 15, 3) := by decide +kernel
theorem dX10_likes_11 : decode cX10_likes 11 = .ok (.aload_n 0, 1) := by decide +kernel
theorem dX10_likes_12 : decode cX10_likes 12 = .ok (.iload_n 2, 1) := by decide +kernel
theorem dX10_likes_13 : decode cX10_likes 13 = .ok (.aload_n 0, 1) := by decide +kernel
theorem dX10_likes_14 : decode cX10_likes 14 = .ok (.getfield 57, 3) := by decide +kernel
theorem dX10_likes_17 : decode cX10_likes 17 = .ok (.invokevirtual 193, 3) := by decide +kernel
theorem dX10_likes_20 : decode cX10_likes 20 = .ok (.ifCond .ne 5, 3) := by decide +kernel
theorem dX10_likes_23 : decode cX10_likes 23 = .ok (.iconst (-1), 1) := by decide +kernel
theorem dX10_likes_24 : decode cX10_likes 24 = .ok (.ireturn, 1) := by decide +kernel
theorem dX10_likes_25 : decode cX10_likes 25 = .ok (.iconst 0, 1) := by decide +kernel
theorem dX10_likes_26 : decode cX10_likes 26 = .ok (.istore_n 3, 1) := by decide +kernel
theorem dX10_likes_27 : decode cX10_likes 27 = .ok (.iload_n 3, 1) := by decide +kernel
theorem dX10_likes_28 : decode cX10_likes 28 = .ok (.aload_n 0, 1) := by decide +kernel
theorem dX10_likes_29 : decode cX10_likes 29 = .ok (.getfield 97, 3) := by decide +kernel
theorem dX10_likes_32 : decode cX10_likes 32 = .ok (.if_icmp .ge 25, 3) := by decide +kernel
theorem dX10_likes_35 : decode cX10_likes 35 = .ok (.aload_n 0, 1) := by decide +kernel
theorem dX10_likes_36 : decode cX10_likes 36 = .ok (.getfield 51, 3) := by decide +kernel
theorem dX10_likes_39 : decode cX10_likes 39 = .ok (.iconst 4, 1) := by decide +kernel
theorem dX10_likes_40 : decode cX10_likes 40 = .ok (.iload_n 1, 1) := by decide +kernel
theorem dX10_likes_41 : decode cX10_likes 41 = .ok (.imul, 1) := by decide +kernel
theorem dX10_likes_42 : decode cX10_likes 42 = .ok (.iload_n 3, 1) := by decide +kernel
theorem dX10_likes_43 : decode cX10_likes 43 = .ok (.iadd, 1) := by decide +kernel
theorem dX10_likes_44 : decode cX10_likes 44 = .ok (.aload_n 0, 1) := by decide +kernel
theorem dX10_likes_45 : decode cX10_likes 45 = .ok (.getfield 57, 3) := by decide +kernel
theorem dX10_likes_48 : decode cX10_likes 48 = .ok (.iload_n 3, 1) := by decide +kernel
theorem dX10_likes_49 : decode cX10_likes 49 = .ok (.iaload, 1) := by decide +kernel
theorem dX10_likes_50 : decode cX10_likes 50 = .ok (.iastore, 1) := by decide +kernel
theorem dX10_likes_51 : decode cX10_likes 51 = .ok (.iinc 3 1, 3) := by decide +kernel
theorem dX10_likes_54 : decode cX10_likes 54 = .ok (.goto (-27), 3) := by decide +kernel
theorem dX10_likes_57 : decode cX10_likes 57 = .ok (.iconst 0, 1) := by decide +kernel
theorem dX10_likes_58 : decode cX10_likes 58 = .ok (.ireturn, 1) := by decide +kernel
theorem dX10_best_0 : decode cX10_best 0 = .ok (.iconst 0, 1) := by decide +kernel
theorem dX10_best_1 : decode cX10_best 1 = .ok (.istore_n 3, 1) := by decide +kernel
theorem dX10_best_2 : decode cX10_best 2 = .ok (.iload_n 2, 1) := by decide +kernel
theorem dX10_best_3 : decode cX10_best 3 = .ok (.aload_n 0, 1) := by decide +kernel
theorem dX10_best_4 : decode cX10_best 4 = .ok (.getfield 51, 3) := by decide +kernel
theorem dX10_best_7 : decode cX10_best 7 = .ok (.iconst 4, 1) := by decide +kernel
theorem dX10_best_8 : decode cX10_best 8 = .ok (.iload_n 1, 1) := by decide +kernel
theorem dX10_best_9 : decode cX10_best 9 = .ok (.imul, 1) := by decide +kernel
theorem dX10_best_10 : decode cX10_best 10 = .ok (.iload_n 3, 1) := by decide +kernel
theorem dX10_best_11 : decode cX10_best 11 = .ok (.iadd, 1) := by decide +kernel
theorem dX10_best_12 : decode cX10_best 12 = .ok (.iaload, 1) := by decide +kernel
theorem dX10_best_13 : decode cX10_best 13 = .ok (.ishr, 1) := by decide +kernel
theorem dX10_best_14 : decode cX10_best 14 = .ok (.iconst 1, 1) := by decide +kernel
theorem dX10_best_15 : decode cX10_best 15 = .ok (.iand, 1) := by decide +kernel
theorem dX10_best_16 : decode cX10_best 16 = .ok (.ifCond .ne 9, 3) := by decide +kernel
theorem dX10_best_19 : decode cX10_best 19 = .ok (.iinc 3 1, 3) := by decide +kernel
theorem dX10_best_22 : decode cX10_best 22 = .ok (.goto (-20), 3) := by decide +kernel
theorem dX10_best_25 : decode cX10_best 25 = .ok (.aload_n 0, 1) := by decide +kernel
theorem dX10_best_26 : decode cX10_best 26 = .ok (.getfield 51, 3) := by decide +kernel
theorem dX10_best_29 : decode cX10_best 29 = .ok (.iconst 4, 1) := by decide +kernel
theorem dX10_best_30 : decode cX10_best 30 = .ok (.iload_n 1, 1) := by decide +kernel
theorem dX10_best_31 : decode cX10_best 31 = .ok (.imul, 1) := by decide +kernel
theorem dX10_best_32 : decode cX10_best 32 = .ok (.iload_n 3, 1) := by decide +kernel
theorem dX10_best_33 : decode cX10_best 33 = .ok (.iadd, 1) := by decide +kernel
theorem dX10_best_34 : decode cX10_best 34 = .ok (.iaload, 1) := by decide +kernel
theorem dX10_best_35 : decode cX10_best 35 = .ok (.ireturn, 1) := by decide +kernel
theorem dX10_ring_0 : decode cX10_ring 0 = .ok (.iconst 1, 1) := by decide +kernel
theorem dX10_ring_1 : decode cX10_ring 1 = .ok (.aload_n 0, 1) := by decide +kernel
theorem dX10_ring_2 : decode cX10_ring 2 = .ok (.getfield 97, 3) := by decide +kernel
theorem dX10_ring_5 : decode cX10_ring 5 = .ok (.ishl, 1) := by decide +kernel
theorem dX10_ring_6 : decode cX10_ring 6 = .ok (.iconst 1, 1) := by decide +kernel
theorem dX10_ring_7 : decode cX10_ring 7 = .ok (.isub, 1) := by decide +kernel
theorem dX10_ring_8 : decode cX10_ring 8 = .ok (.istore_n 1, 1) := by decide +kernel
theorem dX10_ring_9 : decode cX10_ring 9 = .ok (.iconst 1, 1) := by decide +kernel
theorem dX10_ring_10 : decode cX10_ring 10 = .ok (.istore_n 2, 1) := by decide +kernel
theorem dX10_ring_11 : decode cX10_ring 11 = .ok (.iload_n 1, 1) := by decide +kernel
theorem dX10_ring_12 : decode cX10_ring 12 = .ok (.ifCond .eq 129, 3) := by decide +kernel
theorem dX10_ring_15 : decode cX10_ring 15 = .ok (.iconst 0, 1) := by decide +kernel
theorem dX10_ring_16 : decode cX10_ring 16 = .ok (.istore_n 3, 1) := by decide +kernel
theorem dX10_ring_17 : decode cX10_ring 17 = .ok (.iconst 0, 1) := by decide +kernel
theorem dX10_ring_18 : decode cX10_ring 18 = .ok (.istore 4, 2) := by decide +kernel
theorem dX10_ring_20 : decode cX10_ring 20 = .ok (.iload 4, 2) := by decide +kernel
theorem dX10_ring_22 : decode cX10_ring 22 = .ok (.aload_n 0, 1) := by decide +kernel
theorem dX10_ring_23 : decode cX10_ring 23 = .ok (.getfield 97, 3) := by decide +kernel
theorem dX10_ring_26 : decode cX10_ring 26 = .ok (.if_icmp .ge 103, 3) := by decide +kernel
theorem dX10_ring_29 : decode cX10_ring 29 = .ok (.iload_n 1, 1) := by decide +kernel
theorem dX10_ring_30 : decode cX10_ring 30 = .ok (.iload 4, 2) := by decide +kernel
theorem dX10_ring_32 : decode cX10_ring 32 = .ok (.ishr, 1) := by decide +kernel
theorem dX10_ring_33 : decode cX10_ring 33 = .ok (.iconst 1, 1) := by decide +kernel
theorem dX10_ring_34 : decode cX10_ring 34 = .ok (.iand, 1) := by decide +kernel
theorem dX10_ring_35 : decode cX10_ring 35 = .ok (.ifCond .ne 6, 3) := by decide +kernel
theorem dX10_ring_38 : decode cX10_ring 38 = .ok (.goto 85, 3) := by decide +kernel
theorem dX10_ring_41 : decode cX10_ring 41 = .ok (.aload_n 0, 1) := by decide +kernel
theorem dX10_ring_42 : decode cX10_ring 42 = .ok (.iload 4, 2) := by decide +kernel
theorem dX10_ring_44 : decode cX10_ring 44 = .ok (.iload_n 1, 1) := by decide +kernel
theorem dX10_ring_45 : decode cX10_ring 45 = .ok (.invokevirtual 197, 3) := by decide +kernel
theorem dX10_ring_48 : decode cX10_ring 48 = .ok (.istore 5, 2) := by decide +kernel
theorem dX10_ring_50 : decode cX10_ring 50 = .ok (.iconst 0, 1) := by decide +kernel
theorem dX10_ring_51 : decode cX10_ring 51 = .ok (.istore 6, 2) := by decide +kernel
theorem dX10_ring_53 : decode cX10_ring 53 = .ok (.iload 6, 2) := by decide +kernel
theorem dX10_ring_55 : decode cX10_ring 55 = .ok (.aload_n 0, 1) := by decide +kernel
theorem dX10_ring_56 : decode cX10_ring 56 = .ok (.getfield 97, 3) := by decide +kernel
theorem dX10_ring_59 : decode cX10_ring 59 = .ok (.if_icmp .ge 25, 3) := by decide +kernel
theorem dX10_ring_62 : decode cX10_ring 62 = .ok (.iload 5, 2) := by decide +kernel
theorem dX10_ring_64 : decode cX10_ring 64 = .ok (.iload 4, 2) := by decide +kernel
theorem dX10_ring_66 : decode cX10_ring 66 = .ok (.if_icmp .eq 18, 3) := by decide +kernel
theorem dX10_ring_69 : decode cX10_ring 69 = .ok (.aload_n 0, 1) := by decide +kernel
theorem dX10_ring_70 : decode cX10_ring 70 = .ok (.iload 5, 2) := by decide +kernel
theorem dX10_ring_72 : decode cX10_ring 72 = .ok (.iload_n 1, 1) := by decide +kernel
theorem dX10_ring_73 : decode cX10_ring 73 = .ok (.invokevirtual 197, 3) := by decide +kernel
theorem dX10_ring_76 : decode cX10_ring 76 = .ok (.istore 5, 2) := by decide +kernel
theorem dX10_ring_78 : decode cX10_ring 78 = .ok (.iinc 6 1, 3) := by decide +kernel
theorem dX10_ring_81 : decode cX10_ring 81 = .ok (.goto (-28), 3) := by decide +kernel
theorem dX10_ring_84 : decode cX10_ring 84 = .ok (.iload 5, 2) := by decide +kernel
theorem dX10_ring_86 : decode cX10_ring 86 = .ok (.iload 4, 2) := by decide +kernel
theorem dX10_ring_88 : decode cX10_ring 88 = .ok (.if_icmp .eq 6, 3) := by decide +kernel
theorem dX10_ring_91 : decode cX10_ring 91 = .ok (.goto 32, 3) := by decide +kernel
theorem dX10_ring_94 : decode cX10_ring 94 = .ok (.iload_n 3, 1) := by decide +kernel
theorem dX10_ring_95 : decode cX10_ring 95 = .ok (.iconst 1, 1) := by decide +kernel
theorem dX10_ring_96 : decode cX10_ring 96 = .ok (.iload 4, 2) := by decide +kernel
theorem dX10_ring_98 : decode cX10_ring 98 = .ok (.ishl, 1) := by decide +kernel
theorem dX10_ring_99 : decode cX10_ring 99 = .ok (.ior, 1) := by decide +kernel
theorem dX10_ring_100 : decode cX10_ring 100 = .ok (.istore_n 3, 1) := by decide +kernel
theorem dX10_ring_101 : decode cX10_ring 101 = .ok (.aload_n 0, 1) := by decide +kernel
theorem dX10_ring_102 : decode cX10_ring 102 = .ok (.getfield 54, 3) := by decide +kernel
theorem dX10_ring_105 : decode cX10_ring 105 = .ok (.iload 4, 2) := by decide +kernel
theorem dX10_ring_107 : decode cX10_ring 107 = .ok (.aload_n 0, 1) := by decide +kernel
theorem dX10_ring_108 : decode cX10_ring 108 = .ok (.iload 4, 2) := by decide +kernel
theorem dX10_ring_110 : decode cX10_ring 110 = .ok (.iload_n 1, 1) := by decide +kernel
theorem dX10_ring_111 : decode cX10_ring 111 = .ok (.invokevirtual 197, 3) := by decide +kernel
theorem dX10_ring_114 : decode cX10_ring 114 = .ok (.iastore, 1) := by decide +kernel
theorem dX10_ring_115 : decode cX10_ring 115 = .ok (.aload_n 0, 1) := by decide +kernel
theorem dX10_ring_116 : decode cX10_ring 116 = .ok (.getfield 60, 3) := by decide +kernel
theorem dX10_ring_119 : decode cX10_ring 119 = .ok (.iload 4, 2) := by decide +kernel
theorem dX10_ring_121 : decode cX10_ring 121 = .ok (.iload_n 2, 1) := by decide +kernel
theorem dX10_ring_122 : decode cX10_ring 122 = .ok (.iastore, 1) := by decide +kernel
theorem dX10_ring_123 : decode cX10_ring 123 = .ok (.iinc 4 1, 3) := by decide +kernel
theorem dX10_ring_126 : decode cX10_ring 126 = .ok (.goto (-106), 3) := by decide +kernel
theorem dX10_ring_129 : decode cX10_ring 129 = .ok (.iload_n 1, 1) := by decide +kernel
theorem dX10_ring_130 : decode cX10_ring 130 = .ok (.iload_n 3, 1) := by decide +kernel
theorem dX10_ring_131 : decode cX10_ring 131 = .ok (.iconst (-1), 1) := by decide +kernel
theorem dX10_ring_132 : decode cX10_ring 132 = .ok (.ixor, 1) := by decide +kernel
theorem dX10_ring_133 : decode cX10_ring 133 = .ok (.iand, 1) := by decide +kernel
theorem dX10_ring_134 : decode cX10_ring 134 = .ok (.istore_n 1, 1) := by decide +kernel
theorem dX10_ring_135 : decode cX10_ring 135 = .ok (.iinc 2 1, 3) := by decide +kernel
theorem dX10_ring_138 : decode cX10_ring 138 = .ok (.goto (-127), 3) := by decide +kernel
theorem dX10_ring_141 : decode cX10_ring 141 = .ok (.return_, 1) := by decide +kernel
theorem dX10_rings_0 : decode cX10_rings 0 = .ok (.aload_n 0, 1) := by decide +kernel
theorem dX10_rings_1 : decode cX10_rings 1 = .ok (.invokevirtual 200, 3) := by decide +kernel
theorem dX10_rings_4 : decode cX10_rings 4 = .ok (.aload_n 0, 1) := by decide +kernel
theorem dX10_rings_5 : decode cX10_rings 5 = .ok (.aload_n 0, 1) := by decide +kernel
theorem dX10_rings_6 : decode cX10_rings 6 = .ok (.getfield 54, 3) := by decide +kernel
theorem dX10_rings_9 : decode cX10_rings 9 = .ok (.invokevirtual 203, 3) := by decide +kernel
theorem dX10_rings_12 : decode cX10_rings 12 = .ok (.ireturn, 1) := by decide +kernel
theorem dX10_leaves_0 : decode cX10_leaves 0 = .ok (.iload_n 1, 1) := by decide +kernel
theorem dX10_leaves_1 : decode cX10_leaves 1 = .ok (.aload_n 0, 1) := by decide +kernel
theorem dX10_leaves_2 : decode cX10_leaves 2 = .ok (.getfield 97, 3) := by decide +kernel
theorem dX10_leaves_5 : decode cX10_leaves 5 = .ok (.invokestatic 119, 3) := by decide +kernel
theorem dX10_leaves_8 : decode cX10_leaves 8 = .ok (.ifCond .ne 5, 3) := by decide +kernel
theorem dX10_leaves_11 : decode cX10_leaves 11 = .ok (.iconst (-1), 1) := by decide +kernel
theorem dX10_leaves_12 : decode cX10_leaves 12 = .ok (.ireturn, 1) := by decide +kernel
theorem dX10_leaves_13 : decode cX10_leaves 13 = .ok (.aload_n 0, 1) := by decide +kernel
theorem dX10_leaves_14 : decode cX10_leaves 14 = .ok (.invokevirtual 200, 3) := by decide +kernel
theorem dX10_leaves_17 : decode cX10_leaves 17 = .ok (.aload_n 0, 1) := by decide +kernel
theorem dX10_leaves_18 : decode cX10_leaves 18 = .ok (.getfield 60, 3) := by decide +kernel
theorem dX10_leaves_21 : decode cX10_leaves 21 = .ok (.iload_n 1, 1) := by decide +kernel
theorem dX10_leaves_22 : decode cX10_leaves 22 = .ok (.iaload, 1) := by decide +kernel
theorem dX10_leaves_23 : decode cX10_leaves 23 = .ok (.ireturn, 1) := by decide +kernel
theorem dX10_turn_0 : decode cX10_turn 0 = .ok (.iconst 1, 1) := by decide +kernel
theorem dX10_turn_1 : decode cX10_turn 1 = .ok (.aload_n 0, 1) := by decide +kernel
theorem dX10_turn_2 : decode cX10_turn 2 = .ok (.getfield 97, 3) := by decide +kernel
theorem dX10_turn_5 : decode cX10_turn 5 = .ok (.ishl, 1) := by decide +kernel
theorem dX10_turn_6 : decode cX10_turn 6 = .ok (.iconst 1, 1) := by decide +kernel
theorem dX10_turn_7 : decode cX10_turn 7 = .ok (.isub, 1) := by decide +kernel
theorem dX10_turn_8 : decode cX10_turn 8 = .ok (.istore_n 1, 1) := by decide +kernel
theorem dX10_turn_9 : decode cX10_turn 9 = .ok (.iconst 0, 1) := by decide +kernel
theorem dX10_turn_10 : decode cX10_turn 10 = .ok (.istore_n 2, 1) := by decide +kernel
theorem dX10_turn_11 : decode cX10_turn 11 = .ok (.iload_n 2, 1) := by decide +kernel
theorem dX10_turn_12 : decode cX10_turn 12 = .ok (.aload_n 0, 1) := by decide +kernel
theorem dX10_turn_13 : decode cX10_turn 13 = .ok (.getfield 97, 3) := by decide +kernel
theorem dX10_turn_16 : decode cX10_turn 16 = .ok (.if_icmp .ge 49, 3) := by decide +kernel
theorem dX10_turn_19 : decode cX10_turn 19 = .ok (.aload_n 0, 1) := by decide +kernel
theorem dX10_turn_20 : decode cX10_turn 20 = .ok (.getfield 54, 3) := by decide +kernel
theorem dX10_turn_23 : decode cX10_turn 23 = .ok (.aload_n 0, 1) := by decide +kernel
theorem dX10_turn_24 : decode cX10_turn 24 = .ok (.getfield 63, 3) := by decide +kernel
theorem dX10_turn_27 : decode cX10_turn 27 = .ok (.iload_n 2, 1) := by decide +kernel
theorem dX10_turn_28 : decode cX10_turn 28 = .ok (.iaload, 1) := by decide +kernel
theorem dX10_turn_29 : decode cX10_turn 29 = .ok (.aload_n 0, 1) := by decide +kernel
theorem dX10_turn_30 : decode cX10_turn 30 = .ok (.aload_n 0, 1) := by decide +kernel
theorem dX10_turn_31 : decode cX10_turn 31 = .ok (.getfield 63, 3) := by decide +kernel
theorem dX10_turn_34 : decode cX10_turn 34 = .ok (.iload_n 2, 1) := by decide +kernel
theorem dX10_turn_35 : decode cX10_turn 35 = .ok (.iaload, 1) := by decide +kernel
theorem dX10_turn_36 : decode cX10_turn 36 = .ok (.iload_n 1, 1) := by decide +kernel
theorem dX10_turn_37 : decode cX10_turn 37 = .ok (.invokevirtual 197, 3) := by decide +kernel
theorem dX10_turn_40 : decode cX10_turn 40 = .ok (.iastore, 1) := by decide +kernel
theorem dX10_turn_41 : decode cX10_turn 41 = .ok (.iload_n 1, 1) := by decide +kernel
theorem dX10_turn_42 : decode cX10_turn 42 = .ok (.iconst 1, 1) := by decide +kernel
theorem dX10_turn_43 : decode cX10_turn 43 = .ok (.aload_n 0, 1) := by decide +kernel
theorem dX10_turn_44 : decode cX10_turn 44 = .ok (.getfield 54, 3) := by decide +kernel
theorem dX10_turn_47 : decode cX10_turn 47 = .ok (.aload_n 0, 1) := by decide +kernel
theorem dX10_turn_48 : decode cX10_turn 48 = .ok (.getfield 63, 3) := by decide +kernel
theorem dX10_turn_51 : decode cX10_turn 51 = .ok (.iload_n 2, 1) := by decide +kernel
theorem dX10_turn_52 : decode cX10_turn 52 = .ok (.iaload, 1) := by decide +kernel
theorem dX10_turn_53 : decode cX10_turn 53 = .ok (.iaload, 1) := by decide +kernel
theorem dX10_turn_54 : decode cX10_turn 54 = .ok (.ishl, 1) := by decide +kernel
theorem dX10_turn_55 : decode cX10_turn 55 = .ok (.iconst (-1), 1) := by decide +kernel
theorem dX10_turn_56 : decode cX10_turn 56 = .ok (.ixor, 1) := by decide +kernel
theorem dX10_turn_57 : decode cX10_turn 57 = .ok (.iand, 1) := by decide +kernel
theorem dX10_turn_58 : decode cX10_turn 58 = .ok (.istore_n 1, 1) := by decide +kernel
theorem dX10_turn_59 : decode cX10_turn 59 = .ok (.iinc 2 1, 3) := by decide +kernel
theorem dX10_turn_62 : decode cX10_turn 62 = .ok (.goto (-51), 3) := by decide +kernel
theorem dX10_turn_65 : decode cX10_turn 65 = .ok (.return_, 1) := by decide +kernel
theorem dX10_turns_0 : decode cX10_turns 0 = .ok (.aload_n 0, 1) := by decide +kernel
theorem dX10_turns_1 : decode cX10_turns 1 = .ok (.iload_n 1, 1) := by decide +kernel
theorem dX10_turns_2 : decode cX10_turns 2 = .ok (.aload_n 0, 1) := by decide +kernel
theorem dX10_turns_3 : decode cX10_turns 3 = .ok (.getfield 63, 3) := by decide +kernel
theorem dX10_turns_6 : decode cX10_turns 6 = .ok (.invokevirtual 193, 3) := by decide +kernel
theorem dX10_turns_9 : decode cX10_turns 9 = .ok (.ifCond .ne 5, 3) := by decide +kernel
theorem dX10_turns_12 : decode cX10_turns 12 = .ok (.iconst (-1), 1) := by decide +kernel
theorem dX10_turns_13 : decode cX10_turns 13 = .ok (.ireturn, 1) := by decide +kernel
theorem dX10_turns_14 : decode cX10_turns 14 = .ok (.aload_n 0, 1) := by decide +kernel
theorem dX10_turns_15 : decode cX10_turns 15 = .ok (.invokevirtual 207, 3) := by decide +kernel
theorem dX10_turns_18 : decode cX10_turns 18 = .ok (.aload_n 0, 1) := by decide +kernel
theorem dX10_turns_19 : decode cX10_turns 19 = .ok (.aload_n 0, 1) := by decide +kernel
theorem dX10_turns_20 : decode cX10_turns 20 = .ok (.getfield 54, 3) := by decide +kernel
theorem dX10_turns_23 : decode cX10_turns 23 = .ok (.invokevirtual 203, 3) := by decide +kernel
theorem dX10_turns_26 : decode cX10_turns 26 = .ok (.ireturn, 1) := by decide +kernel
theorem dX10_isBetter_0 : decode cX10_isBetter 0 = .ok (.iconst 0, 1) := by decide +kernel
theorem dX10_isBetter_1 : decode cX10_isBetter 1 = .ok (.istore 4, 2) := by decide +kernel
theorem dX10_isBetter_3 : decode cX10_isBetter 3 = .ok (.iconst 0, 1) := by decide +kernel
theorem dX10_isBetter_4 : decode cX10_isBetter 4 = .ok (.istore 5, 2) := by decide +kernel
theorem dX10_isBetter_6 : decode cX10_isBetter 6 = .ok (.iload 5, 2) := by decide +kernel
theorem dX10_isBetter_8 : decode cX10_isBetter 8 = .ok (.aload_n 0, 1) := by decide +kernel
theorem dX10_isBetter_9 : decode cX10_isBetter 9 = .ok (.getfield 97, 3) := by decide +kernel
theorem dX10_isBetter_12 : decode cX10_isBetter 12 = .ok (.if_icmp .ge 92, 3) := by decide +kernel
theorem dX10_isBetter_15 : decode cX10_isBetter 15 = .ok (.iload_n 1, 1) := by decide +kernel
theorem dX10_isBetter_16 : decode cX10_isBetter 16 = .ok (.iload 5, 2) := by decide +kernel
theorem dX10_isBetter_18 : decode cX10_isBetter 18 = .ok (.ishr, 1) := by decide +kernel
theorem dX10_isBetter_19 : decode cX10_isBetter 19 = .ok (.iconst 1, 1) := by decide +kernel
theorem dX10_isBetter_20 : decode cX10_isBetter 20 = .ok (.iand, 1) := by decide +kernel
theorem dX10_isBetter_21 : decode cX10_isBetter 21 = .ok (.ifCond .ne 6, 3) := by decide +kernel
theorem dX10_isBetter_24 : decode cX10_isBetter 24 = .ok (.goto 74, 3) := by decide +kernel
theorem dX10_isBetter_27 : decode cX10_isBetter 27 = .ok (.iload_n 1, 1) := by decide +kernel
theorem dX10_isBetter_28 : decode cX10_isBetter 28 = .ok (.aload_n 3, 1) := by decide +kernel
theorem dX10_isBetter_29 : decode cX10_isBetter 29 = .ok (.iload 5, 2) := by decide +kernel
theorem dX10_isBetter_31 : decode cX10_isBetter 31 = .ok (.iaload, 1) := by decide +kernel
theorem dX10_isBetter_32 : decode cX10_isBetter 32 = .ok (.ishr, 1) := by decide +kernel
theorem dX10_isBetter_33 : decode cX10_isBetter 33 = .ok (.iconst 1, 1) := by decide +kernel
theorem dX10_isBetter_34 : decode cX10_isBetter 34 = .ok (.iand, 1) := by decide +kernel
theorem dX10_isBetter_35 : decode cX10_isBetter 35 = .ok (.ifCond .eq 26, 3) := by decide +kernel
theorem dX10_isBetter_38 : decode cX10_isBetter 38 = .ok (.aload_n 0, 1) := by decide +kernel
theorem dX10_isBetter_39 : decode cX10_isBetter 39 = .ok (.iload 5, 2) := by decide +kernel
theorem dX10_isBetter_41 : decode cX10_isBetter 41 = .ok (.aload_n 3, 1) := by decide +kernel
theorem dX10_isBetter_42 : decode cX10_isBetter 42 = .ok (.iload 5, 2) := by decide +kernel
theorem dX10_isBetter_44 : decode cX10_isBetter 44 = .ok (.iaload, 1) := by decide +kernel
theorem dX10_isBetter_45 : decode cX10_isBetter 45 = .ok (.invokevirtual 210, 3) := by decide +kernel
theorem dX10_isBetter_48 : decode cX10_isBetter 48 = .ok (.aload_n 0, 1) := by decide +kernel
theorem dX10_isBetter_49 : decode cX10_isBetter 49 = .ok (.iload 5, 2) := by decide +kernel
theorem dX10_isBetter_51 : decode cX10_isBetter 51 = .ok (.aload_n 2, 1) := by decide +kernel
theorem dX10_isBetter_52 : decode cX10_isBetter 52 = .ok (.iload 5, 2) := by decide +kernel
theorem dX10_isBetter_54 : decode cX10_isBetter 54 = .ok (.iaload, 1) := by decide +kernel
theorem dX10_isBetter_55 : decode cX10_isBetter 55 = .ok (.invokevirtual 210, 3) := by decide +kernel
theorem dX10_isBetter_58 : decode cX10_isBetter 58 = .ok (.if_icmp .le 5, 3) := by decide +kernel
theorem dX10_isBetter_61 : decode cX10_isBetter 61 = .ok (.iconst 0, 1) := by decide +kernel
theorem dX10_isBetter_62 : decode cX10_isBetter 62 = .ok (.ireturn, 1) := by decide +kernel
theorem dX10_isBetter_63 : decode cX10_isBetter 63 = .ok (.iload 4, 2) := by decide +kernel
theorem dX10_isBetter_65 : decode cX10_isBetter 65 = .ok (.ifCond .ne 26, 3) := by decide +kernel
theorem dX10_isBetter_68 : decode cX10_isBetter 68 = .ok (.aload_n 0, 1) := by decide +kernel
theorem dX10_isBetter_69 : decode cX10_isBetter 69 = .ok (.iload 5, 2) := by decide +kernel
theorem dX10_isBetter_71 : decode cX10_isBetter 71 = .ok (.aload_n 3, 1) := by decide +kernel
theorem dX10_isBetter_72 : decode cX10_isBetter 72 = .ok (.iload 5, 2) := by decide +kernel
theorem dX10_isBetter_74 : decode cX10_isBetter 74 = .ok (.iaload, 1) := by decide +kernel
theorem dX10_isBetter_75 : decode cX10_isBetter 75 = .ok (.invokevirtual 210, 3) := by decide +kernel
theorem dX10_isBetter_78 : decode cX10_isBetter 78 = .ok (.aload_n 0, 1) := by decide +kernel
theorem dX10_isBetter_79 : decode cX10_isBetter 79 = .ok (.iload 5, 2) := by decide +kernel
theorem dX10_isBetter_81 : decode cX10_isBetter 81 = .ok (.aload_n 2, 1) := by decide +kernel
theorem dX10_isBetter_82 : decode cX10_isBetter 82 = .ok (.iload 5, 2) := by decide +kernel
theorem dX10_isBetter_84 : decode cX10_isBetter 84 = .ok (.iaload, 1) := by decide +kernel
theorem dX10_isBetter_85 : decode cX10_isBetter 85 = .ok (.invokevirtual 210, 3) := by decide +kernel
theorem dX10_isBetter_88 : decode cX10_isBetter 88 = .ok (.if_icmp .ge 7, 3) := by decide +kernel
theorem dX10_isBetter_91 : decode cX10_isBetter 91 = .ok (.iconst 1, 1) := by decide +kernel
theorem dX10_isBetter_92 : decode cX10_isBetter 92 = .ok (.goto 4, 3) := by decide +kernel
theorem dX10_isBetter_95 : decode cX10_isBetter 95 = .ok (.iconst 0, 1) := by decide +kernel
theorem dX10_isBetter_96 : decode cX10_isBetter 96 = .ok (.istore 4, 2) := by decide +kernel
theorem dX10_isBetter_98 : decode cX10_isBetter 98 = .ok (.iinc 5 1, 3) := by decide +kernel
theorem dX10_isBetter_101 : decode cX10_isBetter 101 = .ok (.goto (-95), 3) := by decide +kernel
theorem dX10_isBetter_104 : decode cX10_isBetter 104 = .ok (.iload 4, 2) := by decide +kernel
theorem dX10_isBetter_106 : decode cX10_isBetter 106 = .ok (.ireturn, 1) := by decide +kernel
theorem dX10_last_0 : decode cX10_last 0 = .ok (.iconst 0, 1) := by decide +kernel
theorem dX10_last_1 : decode cX10_last 1 = .ok (.istore_n 1, 1) := by decide +kernel
theorem dX10_last_2 : decode cX10_last 2 = .ok (.iconst 0, 1) := by decide +kernel
theorem dX10_last_3 : decode cX10_last 3 = .ok (.istore_n 2, 1) := by decide +kernel
theorem dX10_last_4 : decode cX10_last 4 = .ok (.iload_n 2, 1) := by decide +kernel
theorem dX10_last_5 : decode cX10_last 5 = .ok (.aload_n 0, 1) := by decide +kernel
theorem dX10_last_6 : decode cX10_last 6 = .ok (.getfield 97, 3) := by decide +kernel
theorem dX10_last_9 : decode cX10_last 9 = .ok (.if_icmp .ge 21, 3) := by decide +kernel
theorem dX10_last_12 : decode cX10_last 12 = .ok (.bipush 10, 2) := by decide +kernel
theorem dX10_last_14 : decode cX10_last 14 = .ok (.iload_n 1, 1) := by decide +kernel
theorem dX10_last_15 : decode cX10_last 15 = .ok (.imul, 1) := by decide +kernel
theorem dX10_last_16 : decode cX10_last 16 = .ok (.aload_n 0, 1) := by decide +kernel
theorem dX10_last_17 : decode cX10_last 17 = .ok (.getfield 97, 3) := by decide +kernel
theorem dX10_last_20 : decode cX10_last 20 = .ok (.iadd, 1) := by decide +kernel
theorem dX10_last_21 : decode cX10_last 21 = .ok (.iconst 1, 1) := by decide +kernel
theorem dX10_last_22 : decode cX10_last 22 = .ok (.isub, 1) := by decide +kernel
theorem dX10_last_23 : decode cX10_last 23 = .ok (.istore_n 1, 1) := by decide +kernel
theorem dX10_last_24 : decode cX10_last 24 = .ok (.iinc 2 1, 3) := by decide +kernel
theorem dX10_last_27 : decode cX10_last 27 = .ok (.goto (-23), 3) := by decide +kernel
theorem dX10_last_30 : decode cX10_last 30 = .ok (.iload_n 1, 1) := by decide +kernel
theorem dX10_last_31 : decode cX10_last 31 = .ok (.ireturn, 1) := by decide +kernel
theorem dX10_isBeaten_0 : decode cX10_isBeaten 0 = .ok (.iconst 0, 1) := by decide +kernel
theorem dX10_isBeaten_1 : decode cX10_isBeaten 1 = .ok (.istore_n 3, 1) := by decide +kernel
theorem dX10_isBeaten_2 : decode cX10_isBeaten 2 = .ok (.iload_n 3, 1) := by decide +kernel
theorem dX10_isBeaten_3 : decode cX10_isBeaten 3 = .ok (.aload_n 0, 1) := by decide +kernel
theorem dX10_isBeaten_4 : decode cX10_isBeaten 4 = .ok (.invokevirtual 213, 3) := by decide +kernel
theorem dX10_isBeaten_7 : decode cX10_isBeaten 7 = .ok (.if_icmp .gt 36, 3) := by decide +kernel
theorem dX10_isBeaten_10 : decode cX10_isBeaten 10 = .ok (.aload_n 0, 1) := by decide +kernel
theorem dX10_isBeaten_11 : decode cX10_isBeaten 11 = .ok (.iload_n 3, 1) := by decide +kernel
theorem dX10_isBeaten_12 : decode cX10_isBeaten 12 = .ok (.aload_n 0, 1) := by decide +kernel
theorem dX10_isBeaten_13 : decode cX10_isBeaten 13 = .ok (.getfield 57, 3) := by decide +kernel
theorem dX10_isBeaten_16 : decode cX10_isBeaten 16 = .ok (.invokevirtual 193, 3) := by decide +kernel
theorem dX10_isBeaten_19 : decode cX10_isBeaten 19 = .ok (.ifCond .eq 18, 3) := by decide +kernel
theorem dX10_isBeaten_22 : decode cX10_isBeaten 22 = .ok (.aload_n 0, 1) := by decide +kernel
theorem dX10_isBeaten_23 : decode cX10_isBeaten 23 = .ok (.iload_n 1, 1) := by decide +kernel
theorem dX10_isBeaten_24 : decode cX10_isBeaten 24 = .ok (.aload_n 2, 1) := by decide +kernel
theorem dX10_isBeaten_25 : decode cX10_isBeaten 25 = .ok (.aload_n 0, 1) := by decide +kernel
theorem dX10_isBeaten_26 : decode cX10_isBeaten 26 = .ok (.getfield 57, 3) := by decide +kernel
theorem dX10_isBeaten_29 : decode cX10_isBeaten 29 = .ok (.invokevirtual 216, 3) := by decide +kernel
theorem dX10_isBeaten_32 : decode cX10_isBeaten 32 = .ok (.ifCond .eq 5, 3) := by decide +kernel
theorem dX10_isBeaten_35 : decode cX10_isBeaten 35 = .ok (.iconst 1, 1) := by decide +kernel
theorem dX10_isBeaten_36 : decode cX10_isBeaten 36 = .ok (.ireturn, 1) := by decide +kernel
theorem dX10_isBeaten_37 : decode cX10_isBeaten 37 = .ok (.iinc 3 1, 3) := by decide +kernel
theorem dX10_isBeaten_40 : decode cX10_isBeaten 40 = .ok (.goto (-38), 3) := by decide +kernel
theorem dX10_isBeaten_43 : decode cX10_isBeaten 43 = .ok (.iconst 0, 1) := by decide +kernel
theorem dX10_isBeaten_44 : decode cX10_isBeaten 44 = .ok (.ireturn, 1) := by decide +kernel
theorem dX10_blocking_0 : decode cX10_blocking 0 = .ok (.iconst 1, 1) := by decide +kernel
theorem dX10_blocking_1 : decode cX10_blocking 1 = .ok (.istore_n 2, 1) := by decide +kernel
theorem dX10_blocking_2 : decode cX10_blocking 2 = .ok (.iload_n 2, 1) := by decide +kernel
theorem dX10_blocking_3 : decode cX10_blocking 3 = .ok (.iconst 1, 1) := by decide +kernel
theorem dX10_blocking_4 : decode cX10_blocking 4 = .ok (.aload_n 0, 1) := by decide +kernel
theorem dX10_blocking_5 : decode cX10_blocking 5 = .ok (.getfield 97, 3) := by decide +kernel
theorem dX10_blocking_8 : decode cX10_blocking 8 = .ok (.ishl, 1) := by decide +kernel
theorem dX10_blocking_9 : decode cX10_blocking 9 = .ok (.if_icmp .ge 20, 3) := by decide +kernel
theorem dX10_blocking_12 : decode cX10_blocking 12 = .ok (.aload_n 0, 1) := by decide +kernel
theorem dX10_blocking_13 : decode cX10_blocking 13 = .ok (.iload_n 2, 1) := by decide +kernel
theorem dX10_blocking_14 : decode cX10_blocking 14 = .ok (.aload_n 1, 1) := by decide +kernel
theorem dX10_blocking_15 : decode cX10_blocking 15 = .ok (.invokevirtual 220, 3) := by decide +kernel
theorem dX10_blocking_18 : decode cX10_blocking 18 = .ok (.ifCond .eq 5, 3) := by decide +kernel
theorem dX10_blocking_21 : decode cX10_blocking 21 = .ok (.iload_n 2, 1) := by decide +kernel
theorem dX10_blocking_22 : decode cX10_blocking 22 = .ok (.ireturn, 1) := by decide +kernel
theorem dX10_blocking_23 : decode cX10_blocking 23 = .ok (.iinc 2 1, 3) := by decide +kernel
theorem dX10_blocking_26 : decode cX10_blocking 26 = .ok (.goto (-24), 3) := by decide +kernel
theorem dX10_blocking_29 : decode cX10_blocking 29 = .ok (.bipush (-2), 2) := by decide +kernel
theorem dX10_blocking_31 : decode cX10_blocking 31 = .ok (.ireturn, 1) := by decide +kernel
theorem dX10_blocks_0 : decode cX10_blocks 0 = .ok (.aload_n 0, 1) := by decide +kernel
theorem dX10_blocks_1 : decode cX10_blocks 1 = .ok (.iload_n 1, 1) := by decide +kernel
theorem dX10_blocks_2 : decode cX10_blocks 2 = .ok (.aload_n 0, 1) := by decide +kernel
theorem dX10_blocks_3 : decode cX10_blocks 3 = .ok (.getfield 66, 3) := by decide +kernel
theorem dX10_blocks_6 : decode cX10_blocks 6 = .ok (.invokevirtual 193, 3) := by decide +kernel
theorem dX10_blocks_9 : decode cX10_blocks 9 = .ok (.ifCond .eq 14, 3) := by decide +kernel
theorem dX10_blocks_12 : decode cX10_blocks 12 = .ok (.aload_n 0, 1) := by decide +kernel
theorem dX10_blocks_13 : decode cX10_blocks 13 = .ok (.aload_n 0, 1) := by decide +kernel
theorem dX10_blocks_14 : decode cX10_blocks 14 = .ok (.getfield 66, 3) := by decide +kernel
theorem dX10_blocks_17 : decode cX10_blocks 17 = .ok (.invokevirtual 223, 3) := by decide +kernel
theorem dX10_blocks_20 : decode cX10_blocks 20 = .ok (.goto 4, 3) := by decide +kernel
theorem dX10_blocks_23 : decode cX10_blocks 23 = .ok (.iconst (-1), 1) := by decide +kernel
theorem dX10_blocks_24 : decode cX10_blocks 24 = .ok (.ireturn, 1) := by decide +kernel
theorem dX10_core_0 : decode cX10_core 0 = .ok (.iload_n 1, 1) := by decide +kernel
theorem dX10_core_1 : decode cX10_core 1 = .ok (.ifCond .ge 5, 3) := by decide +kernel
theorem dX10_core_4 : decode cX10_core 4 = .ok (.iconst (-1), 1) := by decide +kernel
theorem dX10_core_5 : decode cX10_core 5 = .ok (.ireturn, 1) := by decide +kernel
theorem dX10_core_6 : decode cX10_core 6 = .ok (.iload_n 1, 1) := by decide +kernel
theorem dX10_core_7 : decode cX10_core 7 = .ok (.istore_n 2, 1) := by decide +kernel
theorem dX10_core_8 : decode cX10_core 8 = .ok (.iconst 0, 1) := by decide +kernel
theorem dX10_core_9 : decode cX10_core 9 = .ok (.istore_n 3, 1) := by decide +kernel
theorem dX10_core_10 : decode cX10_core 10 = .ok (.iload_n 3, 1) := by decide +kernel
theorem dX10_core_11 : decode cX10_core 11 = .ok (.aload_n 0, 1) := by decide +kernel
theorem dX10_core_12 : decode cX10_core 12 = .ok (.invokevirtual 213, 3) := by decide +kernel
theorem dX10_core_15 : decode cX10_core 15 = .ok (.if_icmp .gt 46, 3) := by decide +kernel
theorem dX10_core_18 : decode cX10_core 18 = .ok (.aload_n 0, 1) := by decide +kernel
theorem dX10_core_19 : decode cX10_core 19 = .ok (.iload_n 3, 1) := by decide +kernel
theorem dX10_core_20 : decode cX10_core 20 = .ok (.aload_n 0, 1) := by decide +kernel
theorem dX10_core_21 : decode cX10_core 21 = .ok (.getfield 66, 3) := by decide +kernel
theorem dX10_core_24 : decode cX10_core 24 = .ok (.invokevirtual 193, 3) := by decide +kernel
theorem dX10_core_27 : decode cX10_core 27 = .ok (.ifCond .eq 28, 3) := by decide +kernel
theorem dX10_core_30 : decode cX10_core 30 = .ok (.aload_n 0, 1) := by decide +kernel
theorem dX10_core_31 : decode cX10_core 31 = .ok (.aload_n 0, 1) := by decide +kernel
theorem dX10_core_32 : decode cX10_core 32 = .ok (.getfield 66, 3) := by decide +kernel
theorem dX10_core_35 : decode cX10_core 35 = .ok (.invokevirtual 223, 3) := by decide +kernel
theorem dX10_core_38 : decode cX10_core 38 = .ok (.bipush (-2), 2) := by decide +kernel
theorem dX10_core_40 : decode cX10_core 40 = .ok (.if_icmp .eq 6, 3) := by decide +kernel
theorem dX10_core_43 : decode cX10_core 43 = .ok (.goto 12, 3) := by decide +kernel
theorem dX10_core_46 : decode cX10_core 46 = .ok (.iload_n 2, 1) := by decide +kernel
theorem dX10_core_47 : decode cX10_core 47 = .ok (.ifCond .ne 5, 3) := by decide +kernel
theorem dX10_core_50 : decode cX10_core 50 = .ok (.iload_n 3, 1) := by decide +kernel
theorem dX10_core_51 : decode cX10_core 51 = .ok (.ireturn, 1) := by decide +kernel
theorem dX10_core_52 : decode cX10_core 52 = .ok (.iinc 2 (-1), 3) := by decide +kernel
theorem dX10_core_55 : decode cX10_core 55 = .ok (.iinc 3 1, 3) := by decide +kernel
theorem dX10_core_58 : decode cX10_core 58 = .ok (.goto (-48), 3) := by decide +kernel
theorem dX10_core_61 : decode cX10_core 61 = .ok (.bipush (-2), 2) := by decide +kernel
theorem dX10_core_63 : decode cX10_core 63 = .ok (.ireturn, 1) := by decide +kernel
theorem dX10_good_0 : decode cX10_good 0 = .ok (.aload_n 0, 1) := by decide +kernel
theorem dX10_good_1 : decode cX10_good 1 = .ok (.iload_n 1, 1) := by decide +kernel
theorem dX10_good_2 : decode cX10_good 2 = .ok (.aload_n 0, 1) := by decide +kernel
theorem dX10_good_3 : decode cX10_good 3 = .ok (.getfield 66, 3) := by decide +kernel
theorem dX10_good_6 : decode cX10_good 6 = .ok (.invokevirtual 193, 3) := by decide +kernel
theorem dX10_good_9 : decode cX10_good 9 = .ok (.ifCond .eq 30, 3) := by decide +kernel
theorem dX10_good_12 : decode cX10_good 12 = .ok (.aload_n 0, 1) := by decide +kernel
theorem dX10_good_13 : decode cX10_good 13 = .ok (.iconst 1, 1) := by decide +kernel
theorem dX10_good_14 : decode cX10_good 14 = .ok (.aload_n 0, 1) := by decide +kernel
theorem dX10_good_15 : decode cX10_good 15 = .ok (.getfield 97, 3) := by decide +kernel
theorem dX10_good_18 : decode cX10_good 18 = .ok (.ishl, 1) := by decide +kernel
theorem dX10_good_19 : decode cX10_good 19 = .ok (.iconst 1, 1) := by decide +kernel
theorem dX10_good_20 : decode cX10_good 20 = .ok (.isub, 1) := by decide +kernel
theorem dX10_good_21 : decode cX10_good 21 = .ok (.aload_n 0, 1) := by decide +kernel
theorem dX10_good_22 : decode cX10_good 22 = .ok (.getfield 66, 3) := by decide +kernel
theorem dX10_good_25 : decode cX10_good 25 = .ok (.invokevirtual 220, 3) := by decide +kernel
theorem dX10_good_28 : decode cX10_good 28 = .ok (.ifCond .eq 7, 3) := by decide +kernel
theorem dX10_good_31 : decode cX10_good 31 = .ok (.iconst 0, 1) := by decide +kernel
theorem dX10_good_32 : decode cX10_good 32 = .ok (.goto 8, 3) := by decide +kernel
theorem dX10_good_35 : decode cX10_good 35 = .ok (.iconst 1, 1) := by decide +kernel
theorem dX10_good_36 : decode cX10_good 36 = .ok (.goto 4, 3) := by decide +kernel
theorem dX10_good_39 : decode cX10_good 39 = .ok (.iconst (-1), 1) := by decide +kernel
theorem dX10_good_40 : decode cX10_good 40 = .ok (.ireturn, 1) := by decide +kernel
theorem dX10_by_0 : decode cX10_by 0 = .ok (.aload_n 0, 1) := by decide +kernel
theorem dX10_by_1 : decode cX10_by 1 = .ok (.iload_n 1, 1) := by decide +kernel
theorem dX10_by_2 : decode cX10_by 2 = .ok (.aload_n 0, 1) := by decide +kernel
theorem dX10_by_3 : decode cX10_by 3 = .ok (.getfield 66, 3) := by decide +kernel
theorem dX10_by_6 : decode cX10_by 6 = .ok (.invokevirtual 193, 3) := by decide +kernel
theorem dX10_by_9 : decode cX10_by 9 = .ok (.ifCond .ne 5, 3) := by decide +kernel
theorem dX10_by_12 : decode cX10_by 12 = .ok (.iconst (-1), 1) := by decide +kernel
theorem dX10_by_13 : decode cX10_by 13 = .ok (.ireturn, 1) := by decide +kernel
theorem dX10_by_14 : decode cX10_by 14 = .ok (.iconst 0, 1) := by decide +kernel
theorem dX10_by_15 : decode cX10_by 15 = .ok (.istore_n 2, 1) := by decide +kernel
theorem dX10_by_16 : decode cX10_by 16 = .ok (.iload_n 2, 1) := by decide +kernel
theorem dX10_by_17 : decode cX10_by 17 = .ok (.aload_n 0, 1) := by decide +kernel
theorem dX10_by_18 : decode cX10_by 18 = .ok (.invokevirtual 213, 3) := by decide +kernel
theorem dX10_by_21 : decode cX10_by 21 = .ok (.if_icmp .gt 42, 3) := by decide +kernel
theorem dX10_by_24 : decode cX10_by 24 = .ok (.aload_n 0, 1) := by decide +kernel
theorem dX10_by_25 : decode cX10_by 25 = .ok (.iload_n 2, 1) := by decide +kernel
theorem dX10_by_26 : decode cX10_by 26 = .ok (.aload_n 0, 1) := by decide +kernel
theorem dX10_by_27 : decode cX10_by 27 = .ok (.getfield 63, 3) := by decide +kernel
theorem dX10_by_30 : decode cX10_by 30 = .ok (.invokevirtual 193, 3) := by decide +kernel
theorem dX10_by_33 : decode cX10_by 33 = .ok (.ifCond .ne 6, 3) := by decide +kernel
theorem dX10_by_36 : decode cX10_by 36 = .ok (.goto 21, 3) := by decide +kernel
theorem dX10_by_39 : decode cX10_by 39 = .ok (.aload_n 0, 1) := by decide +kernel
theorem dX10_by_40 : decode cX10_by 40 = .ok (.invokevirtual 207, 3) := by decide +kernel
theorem dX10_by_43 : decode cX10_by 43 = .ok (.aload_n 0, 1) := by decide +kernel
theorem dX10_by_44 : decode cX10_by 44 = .ok (.aload_n 0, 1) := by decide +kernel
theorem dX10_by_45 : decode cX10_by 45 = .ok (.getfield 54, 3) := by decide +kernel
theorem dX10_by_48 : decode cX10_by 48 = .ok (.invokevirtual 203, 3) := by decide +kernel
theorem dX10_by_51 : decode cX10_by 51 = .ok (.iload_n 1, 1) := by decide +kernel
theorem dX10_by_52 : decode cX10_by 52 = .ok (.if_icmp .ne 5, 3) := by decide +kernel
theorem dX10_by_55 : decode cX10_by 55 = .ok (.iload_n 2, 1) := by decide +kernel
theorem dX10_by_56 : decode cX10_by 56 = .ok (.ireturn, 1) := by decide +kernel
theorem dX10_by_57 : decode cX10_by 57 = .ok (.iinc 2 1, 3) := by decide +kernel
theorem dX10_by_60 : decode cX10_by 60 = .ok (.goto (-44), 3) := by decide +kernel
theorem dX10_by_63 : decode cX10_by 63 = .ok (.bipush (-2), 2) := by decide +kernel
theorem dX10_by_65 : decode cX10_by 65 = .ok (.ireturn, 1) := by decide +kernel
theorem dX10_wrong_0 : decode cX10_wrong 0 = .ok (.iload_n 1, 1) := by decide +kernel
theorem dX10_wrong_1 : decode cX10_wrong 1 = .ok (.aload_n 0, 1) := by decide +kernel
theorem dX10_wrong_2 : decode cX10_wrong 2 = .ok (.getfield 97, 3) := by decide +kernel
theorem dX10_wrong_5 : decode cX10_wrong 5 = .ok (.invokestatic 119, 3) := by decide +kernel
theorem dX10_wrong_8 : decode cX10_wrong 8 = .ok (.ifCond .ne 5, 3) := by decide +kernel
theorem dX10_wrong_11 : decode cX10_wrong 11 = .ok (.iconst (-1), 1) := by decide +kernel
theorem dX10_wrong_12 : decode cX10_wrong 12 = .ok (.ireturn, 1) := by decide +kernel
theorem dX10_wrong_13 : decode cX10_wrong 13 = .ok (.aload_n 0, 1) := by decide +kernel
theorem dX10_wrong_14 : decode cX10_wrong 14 = .ok (.invokevirtual 200, 3) := by decide +kernel
theorem dX10_wrong_17 : decode cX10_wrong 17 = .ok (.aload_n 0, 1) := by decide +kernel
theorem dX10_wrong_18 : decode cX10_wrong 18 = .ok (.iload_n 1, 1) := by decide +kernel
theorem dX10_wrong_19 : decode cX10_wrong 19 = .ok (.aload_n 0, 1) := by decide +kernel
theorem dX10_wrong_20 : decode cX10_wrong 20 = .ok (.getfield 54, 3) := by decide +kernel
theorem dX10_wrong_23 : decode cX10_wrong 23 = .ok (.iload_n 1, 1) := by decide +kernel
theorem dX10_wrong_24 : decode cX10_wrong 24 = .ok (.iaload, 1) := by decide +kernel
theorem dX10_wrong_25 : decode cX10_wrong 25 = .ok (.invokevirtual 210, 3) := by decide +kernel
theorem dX10_wrong_28 : decode cX10_wrong 28 = .ok (.istore_n 2, 1) := by decide +kernel
theorem dX10_wrong_29 : decode cX10_wrong 29 = .ok (.iconst 0, 1) := by decide +kernel
theorem dX10_wrong_30 : decode cX10_wrong 30 = .ok (.istore_n 3, 1) := by decide +kernel
theorem dX10_wrong_31 : decode cX10_wrong 31 = .ok (.iconst 0, 1) := by decide +kernel
theorem dX10_wrong_32 : decode cX10_wrong 32 = .ok (.istore 4, 2) := by decide +kernel
theorem dX10_wrong_34 : decode cX10_wrong 34 = .ok (.iload 4, 2) := by decide +kernel
theorem dX10_wrong_36 : decode cX10_wrong 36 = .ok (.aload_n 0, 1) := by decide +kernel
theorem dX10_wrong_37 : decode cX10_wrong 37 = .ok (.getfield 97, 3) := by decide +kernel
theorem dX10_wrong_40 : decode cX10_wrong 40 = .ok (.if_icmp .ge 40, 3) := by decide +kernel
theorem dX10_wrong_43 : decode cX10_wrong 43 = .ok (.aload_n 0, 1) := by decide +kernel
theorem dX10_wrong_44 : decode cX10_wrong 44 = .ok (.getfield 66, 3) := by decide +kernel
theorem dX10_wrong_47 : decode cX10_wrong 47 = .ok (.iload 4, 2) := by decide +kernel
theorem dX10_wrong_49 : decode cX10_wrong 49 = .ok (.aload_n 0, 1) := by decide +kernel
theorem dX10_wrong_50 : decode cX10_wrong 50 = .ok (.getfield 51, 3) := by decide +kernel
theorem dX10_wrong_53 : decode cX10_wrong 53 = .ok (.iconst 4, 1) := by decide +kernel
theorem dX10_wrong_54 : decode cX10_wrong 54 = .ok (.iload_n 1, 1) := by decide +kernel
theorem dX10_wrong_55 : decode cX10_wrong 55 = .ok (.imul, 1) := by decide +kernel
theorem dX10_wrong_56 : decode cX10_wrong 56 = .ok (.iload 4, 2) := by decide +kernel
theorem dX10_wrong_58 : decode cX10_wrong 58 = .ok (.iadd, 1) := by decide +kernel
theorem dX10_wrong_59 : decode cX10_wrong 59 = .ok (.iaload, 1) := by decide +kernel
theorem dX10_wrong_60 : decode cX10_wrong 60 = .ok (.iastore, 1) := by decide +kernel
theorem dX10_wrong_61 : decode cX10_wrong 61 = .ok (.bipush 10, 2) := by decide +kernel
theorem dX10_wrong_63 : decode cX10_wrong 63 = .ok (.iload_n 3, 1) := by decide +kernel
theorem dX10_wrong_64 : decode cX10_wrong 64 = .ok (.imul, 1) := by decide +kernel
theorem dX10_wrong_65 : decode cX10_wrong 65 = .ok (.aload_n 0, 1) := by decide +kernel
theorem dX10_wrong_66 : decode cX10_wrong 66 = .ok (.getfield 66, 3) := by decide +kernel
theorem dX10_wrong_69 : decode cX10_wrong 69 = .ok (.iload 4, 2) := by decide +kernel
theorem dX10_wrong_71 : decode cX10_wrong 71 = .ok (.iaload, 1) := by decide +kernel
theorem dX10_wrong_72 : decode cX10_wrong 72 = .ok (.iadd, 1) := by decide +kernel
theorem dX10_wrong_73 : decode cX10_wrong 73 = .ok (.istore_n 3, 1) := by decide +kernel
theorem dX10_wrong_74 : decode cX10_wrong 74 = .ok (.iinc 4 1, 3) := by decide +kernel
theorem dX10_wrong_77 : decode cX10_wrong 77 = .ok (.goto (-43), 3) := by decide +kernel
theorem dX10_wrong_80 : decode cX10_wrong 80 = .ok (.bipush (-2), 2) := by decide +kernel
theorem dX10_wrong_82 : decode cX10_wrong 82 = .ok (.istore 4, 2) := by decide +kernel
theorem dX10_wrong_84 : decode cX10_wrong 84 = .ok (.iconst 0, 1) := by decide +kernel
theorem dX10_wrong_85 : decode cX10_wrong 85 = .ok (.istore 5, 2) := by decide +kernel
theorem dX10_wrong_87 : decode cX10_wrong 87 = .ok (.iload 5, 2) := by decide +kernel
theorem dX10_wrong_89 : decode cX10_wrong 89 = .ok (.aload_n 0, 1) := by decide +kernel
theorem dX10_wrong_90 : decode cX10_wrong 90 = .ok (.invokevirtual 213, 3) := by decide +kernel
theorem dX10_wrong_93 : decode cX10_wrong 93 = .ok (.if_icmp .gt 131, 3) := by decide +kernel
theorem dX10_wrong_96 : decode cX10_wrong 96 = .ok (.iload 4, 2) := by decide +kernel
theorem dX10_wrong_98 : decode cX10_wrong 98 = .ok (.bipush (-2), 2) := by decide +kernel
theorem dX10_wrong_100 : decode cX10_wrong 100 = .ok (.if_icmp .ne 124, 3) := by decide +kernel
theorem dX10_wrong_103 : decode cX10_wrong 103 = .ok (.aload_n 0, 1) := by decide +kernel
theorem dX10_wrong_104 : decode cX10_wrong 104 = .ok (.iload 5, 2) := by decide +kernel
theorem dX10_wrong_106 : decode cX10_wrong 106 = .ok (.aload_n 0, 1) := by decide +kernel
theorem dX10_wrong_107 : decode cX10_wrong 107 = .ok (.getfield 57, 3) := by decide +kernel
theorem dX10_wrong_110 : decode cX10_wrong 110 = .ok (.invokevirtual 193, 3) := by decide +kernel
theorem dX10_wrong_113 : decode cX10_wrong 113 = .ok (.ifCond .ne 6, 3) := by decide +kernel
theorem dX10_wrong_116 : decode cX10_wrong 116 = .ok (.goto 102, 3) := by decide +kernel
theorem dX10_wrong_119 : decode cX10_wrong 119 = .ok (.iconst 0, 1) := by decide +kernel
theorem dX10_wrong_120 : decode cX10_wrong 120 = .ok (.istore 6, 2) := by decide +kernel
theorem dX10_wrong_122 : decode cX10_wrong 122 = .ok (.iload 6, 2) := by decide +kernel
theorem dX10_wrong_124 : decode cX10_wrong 124 = .ok (.aload_n 0, 1) := by decide +kernel
theorem dX10_wrong_125 : decode cX10_wrong 125 = .ok (.getfield 97, 3) := by decide +kernel
theorem dX10_wrong_128 : decode cX10_wrong 128 = .ok (.if_icmp .ge 27, 3) := by decide +kernel
theorem dX10_wrong_131 : decode cX10_wrong 131 = .ok (.aload_n 0, 1) := by decide +kernel
theorem dX10_wrong_132 : decode cX10_wrong 132 = .ok (.getfield 51, 3) := by decide +kernel
theorem dX10_wrong_135 : decode cX10_wrong 135 = .ok (.iconst 4, 1) := by decide +kernel
theorem dX10_wrong_136 : decode cX10_wrong 136 = .ok (.iload_n 1, 1) := by decide +kernel
theorem dX10_wrong_137 : decode cX10_wrong 137 = .ok (.imul, 1) := by decide +kernel
theorem dX10_wrong_138 : decode cX10_wrong 138 = .ok (.iload 6, 2) := by decide +kernel
theorem dX10_wrong_140 : decode cX10_wrong 140 = .ok (.iadd, 1) := by decide +kernel
theorem dX10_wrong_141 : decode cX10_wrong 141 = .ok (.aload_n 0, 1) := by decide +kernel
theorem dX10_wrong_142 : decode cX10_wrong 142 = .ok (.getfield 57, 3) := by decide +kernel
theorem dX10_wrong_145 : decode cX10_wrong 145 = .ok (.iload 6, 2) := by decide +kernel
theorem dX10_wrong_147 : decode cX10_wrong 147 = .ok (.iaload, 1) := by decide +kernel
theorem dX10_wrong_148 : decode cX10_wrong 148 = .ok (.iastore, 1) := by decide +kernel
theorem dX10_wrong_149 : decode cX10_wrong 149 = .ok (.iinc 6 1, 3) := by decide +kernel
theorem dX10_wrong_152 : decode cX10_wrong 152 = .ok (.goto (-30), 3) := by decide +kernel
theorem dX10_wrong_155 : decode cX10_wrong 155 = .ok (.aload_n 0, 1) := by decide +kernel
theorem dX10_wrong_156 : decode cX10_wrong 156 = .ok (.invokevirtual 200, 3) := by decide +kernel
theorem dX10_wrong_159 : decode cX10_wrong 159 = .ok (.aload_n 0, 1) := by decide +kernel
theorem dX10_wrong_160 : decode cX10_wrong 160 = .ok (.getfield 54, 3) := by decide +kernel
theorem dX10_wrong_163 : decode cX10_wrong 163 = .ok (.iload_n 1, 1) := by decide +kernel
theorem dX10_wrong_164 : decode cX10_wrong 164 = .ok (.iaload, 1) := by decide +kernel
theorem dX10_wrong_165 : decode cX10_wrong 165 = .ok (.istore 6, 2) := by decide +kernel
theorem dX10_wrong_167 : decode cX10_wrong 167 = .ok (.iconst 0, 1) := by decide +kernel
theorem dX10_wrong_168 : decode cX10_wrong 168 = .ok (.istore 7, 2) := by decide +kernel
theorem dX10_wrong_170 : decode cX10_wrong 170 = .ok (.iload 7, 2) := by decide +kernel
theorem dX10_wrong_172 : decode cX10_wrong 172 = .ok (.aload_n 0, 1) := by decide +kernel
theorem dX10_wrong_173 : decode cX10_wrong 173 = .ok (.getfield 97, 3) := by decide +kernel
theorem dX10_wrong_176 : decode cX10_wrong 176 = .ok (.if_icmp .ge 27, 3) := by decide +kernel
theorem dX10_wrong_179 : decode cX10_wrong 179 = .ok (.aload_n 0, 1) := by decide +kernel
theorem dX10_wrong_180 : decode cX10_wrong 180 = .ok (.getfield 51, 3) := by decide +kernel
theorem dX10_wrong_183 : decode cX10_wrong 183 = .ok (.iconst 4, 1) := by decide +kernel
theorem dX10_wrong_184 : decode cX10_wrong 184 = .ok (.iload_n 1, 1) := by decide +kernel
theorem dX10_wrong_185 : decode cX10_wrong 185 = .ok (.imul, 1) := by decide +kernel
theorem dX10_wrong_186 : decode cX10_wrong 186 = .ok (.iload 7, 2) := by decide +kernel
theorem dX10_wrong_188 : decode cX10_wrong 188 = .ok (.iadd, 1) := by decide +kernel
theorem dX10_wrong_189 : decode cX10_wrong 189 = .ok (.aload_n 0, 1) := by decide +kernel
theorem dX10_wrong_190 : decode cX10_wrong 190 = .ok (.getfield 66, 3) := by decide +kernel
theorem dX10_wrong_193 : decode cX10_wrong 193 = .ok (.iload 7, 2) := by decide +kernel
theorem dX10_wrong_195 : decode cX10_wrong 195 = .ok (.iaload, 1) := by decide +kernel
theorem dX10_wrong_196 : decode cX10_wrong 196 = .ok (.iastore, 1) := by decide +kernel
theorem dX10_wrong_197 : decode cX10_wrong 197 = .ok (.iinc 7 1, 3) := by decide +kernel
theorem dX10_wrong_200 : decode cX10_wrong 200 = .ok (.goto (-30), 3) := by decide +kernel
theorem dX10_wrong_203 : decode cX10_wrong 203 = .ok (.aload_n 0, 1) := by decide +kernel
theorem dX10_wrong_204 : decode cX10_wrong 204 = .ok (.iload_n 1, 1) := by decide +kernel
theorem dX10_wrong_205 : decode cX10_wrong 205 = .ok (.iload 6, 2) := by decide +kernel
theorem dX10_wrong_207 : decode cX10_wrong 207 = .ok (.invokevirtual 210, 3) := by decide +kernel
theorem dX10_wrong_210 : decode cX10_wrong 210 = .ok (.iload_n 2, 1) := by decide +kernel
theorem dX10_wrong_211 : decode cX10_wrong 211 = .ok (.if_icmp .ge 7, 3) := by decide +kernel
theorem dX10_wrong_214 : decode cX10_wrong 214 = .ok (.iload 5, 2) := by decide +kernel
theorem dX10_wrong_216 : decode cX10_wrong 216 = .ok (.istore 4, 2) := by decide +kernel
theorem dX10_wrong_218 : decode cX10_wrong 218 = .ok (.iinc 5 1, 3) := by decide +kernel
theorem dX10_wrong_221 : decode cX10_wrong 221 = .ok (.goto (-134), 3) := by decide +kernel
theorem dX10_wrong_224 : decode cX10_wrong 224 = .ok (.iload 4, 2) := by decide +kernel
theorem dX10_wrong_226 : decode cX10_wrong 226 = .ok (.ireturn, 1) := by decide +kernel
theorem dX10_count_0 : decode cX10_count 0 = .ok (.iconst 0, 1) := by decide +kernel
theorem dX10_count_1 : decode cX10_count 1 = .ok (.istore_n 2, 1) := by decide +kernel
theorem dX10_count_2 : decode cX10_count 2 = .ok (.iload_n 1, 1) := by decide +kernel
theorem dX10_count_3 : decode cX10_count 3 = .ok (.tableswitch 164 0 6 #[41, 46, 51, 56, 61, 66, 66], 41) := by decide +kernel
theorem dX10_count_44 : decode cX10_count 44 = .ok (.aload_n 0, 1) := by decide +kernel
theorem dX10_count_45 : decode cX10_count 45 = .ok (.getfield 97, 3) := by decide +kernel
theorem dX10_count_48 : decode cX10_count 48 = .ok (.ireturn, 1) := by decide +kernel
theorem dX10_count_49 : decode cX10_count 49 = .ok (.aload_n 0, 1) := by decide +kernel
theorem dX10_count_50 : decode cX10_count 50 = .ok (.getfield 101, 3) := by decide +kernel
theorem dX10_count_53 : decode cX10_count 53 = .ok (.ireturn, 1) := by decide +kernel
theorem dX10_count_54 : decode cX10_count 54 = .ok (.aload_n 0, 1) := by decide +kernel
theorem dX10_count_55 : decode cX10_count 55 = .ok (.getfield 110, 3) := by decide +kernel
theorem dX10_count_58 : decode cX10_count 58 = .ok (.ireturn, 1) := by decide +kernel
theorem dX10_count_59 : decode cX10_count 59 = .ok (.aload_n 0, 1) := by decide +kernel
theorem dX10_count_60 : decode cX10_count 60 = .ok (.getfield 116, 3) := by decide +kernel
theorem dX10_count_63 : decode cX10_count 63 = .ok (.ireturn, 1) := by decide +kernel
theorem dX10_count_64 : decode cX10_count 64 = .ok (.aload_n 0, 1) := by decide +kernel
theorem dX10_count_65 : decode cX10_count 65 = .ok (.getfield 113, 3) := by decide +kernel
theorem dX10_count_68 : decode cX10_count 68 = .ok (.ireturn, 1) := by decide +kernel
theorem dX10_count_69 : decode cX10_count 69 = .ok (.iconst 0, 1) := by decide +kernel
theorem dX10_count_70 : decode cX10_count 70 = .ok (.istore_n 3, 1) := by decide +kernel
theorem dX10_count_71 : decode cX10_count 71 = .ok (.iload_n 3, 1) := by decide +kernel
theorem dX10_count_72 : decode cX10_count 72 = .ok (.aload_n 0, 1) := by decide +kernel
theorem dX10_count_73 : decode cX10_count 73 = .ok (.invokevirtual 213, 3) := by decide +kernel
theorem dX10_count_76 : decode cX10_count 76 = .ok (.if_icmp .gt 89, 3) := by decide +kernel
theorem dX10_count_79 : decode cX10_count 79 = .ok (.aload_n 0, 1) := by decide +kernel
theorem dX10_count_80 : decode cX10_count 80 = .ok (.iload_n 3, 1) := by decide +kernel
theorem dX10_count_81 : decode cX10_count 81 = .ok (.aload_n 0, 1) := by decide +kernel
theorem dX10_count_82 : decode cX10_count 82 = .ok (.getfield 66, 3) := by decide +kernel
theorem dX10_count_85 : decode cX10_count 85 = .ok (.invokevirtual 193, 3) := by decide +kernel
theorem dX10_count_88 : decode cX10_count 88 = .ok (.ifCond .ne 6, 3) := by decide +kernel
theorem dX10_count_91 : decode cX10_count 91 = .ok (.goto 68, 3) := by decide +kernel
theorem dX10_count_94 : decode cX10_count 94 = .ok (.iload_n 1, 1) := by decide +kernel
theorem dX10_count_95 : decode cX10_count 95 = .ok (.iconst 5, 1) := by decide +kernel
theorem dX10_count_96 : decode cX10_count 96 = .ok (.if_icmp .ne 30, 3) := by decide +kernel
theorem dX10_count_99 : decode cX10_count 99 = .ok (.aload_n 0, 1) := by decide +kernel
theorem dX10_count_100 : decode cX10_count 100 = .ok (.iconst 1, 1) := by decide +kernel
theorem dX10_count_101 : decode cX10_count 101 = .ok (.aload_n 0, 1) := by decide +kernel
theorem dX10_count_102 : decode cX10_count 102 = .ok (.getfield 97, 3) := by decide +kernel
theorem dX10_count_105 : decode cX10_count 105 = .ok (.ishl, 1) := by decide +kernel
theorem dX10_count_106 : decode cX10_count 106 = .ok (.iconst 1, 1) := by decide +kernel
theorem dX10_count_107 : decode cX10_count 107 = .ok (.isub, 1) := by decide +kernel
theorem dX10_count_108 : decode cX10_count 108 = .ok (.aload_n 0, 1) := by decide +kernel
theorem dX10_count_109 : decode cX10_count 109 = .ok (.getfield 66, 3) := by decide +kernel
theorem dX10_count_112 : decode cX10_count 112 = .ok (.invokevirtual 220, 3) := by decide +kernel
theorem dX10_count_115 : decode cX10_count 115 = .ok (.ifCond .ne 7, 3) := by decide +kernel
theorem dX10_count_118 : decode cX10_count 118 = .ok (.iconst 1, 1) := by decide +kernel
theorem dX10_count_119 : decode cX10_count 119 = .ok (.goto 25, 3) := by decide +kernel
theorem dX10_count_122 : decode cX10_count 122 = .ok (.iconst 0, 1) := by decide +kernel
theorem dX10_count_123 : decode cX10_count 123 = .ok (.goto 21, 3) := by decide +kernel
theorem dX10_count_126 : decode cX10_count 126 = .ok (.aload_n 0, 1) := by decide +kernel
theorem dX10_count_127 : decode cX10_count 127 = .ok (.aload_n 0, 1) := by decide +kernel
theorem dX10_count_128 : decode cX10_count 128 = .ok (.getfield 66, 3) := by decide +kernel
theorem dX10_count_131 : decode cX10_count 131 = .ok (.invokevirtual 223, 3) := by decide +kernel
theorem dX10_count_134 : decode cX10_count 134 = .ok (.bipush (-2), 2) := by decide +kernel
theorem dX10_count_136 : decode cX10_count 136 = .ok (.if_icmp .ne 7, 3) := by decide +kernel
theorem dX10_count_139 : decode cX10_count 139 = .ok (.iconst 1, 1) := by decide +kernel
theorem dX10_count_140 : decode cX10_count 140 = .ok (.goto 4, 3) := by decide +kernel
theorem dX10_count_143 : decode cX10_count 143 = .ok (.iconst 0, 1) := by decide +kernel
theorem dX10_count_144 : decode cX10_count 144 = .ok (.istore 4, 2) := by decide +kernel
theorem dX10_count_146 : decode cX10_count 146 = .ok (.iload_n 2, 1) := by decide +kernel
theorem dX10_count_147 : decode cX10_count 147 = .ok (.iload 4, 2) := by decide +kernel
theorem dX10_count_149 : decode cX10_count 149 = .ok (.ifCond .eq 7, 3) := by decide +kernel
theorem dX10_count_152 : decode cX10_count 152 = .ok (.iconst 1, 1) := by decide +kernel
theorem dX10_count_153 : decode cX10_count 153 = .ok (.goto 4, 3) := by decide +kernel
theorem dX10_count_156 : decode cX10_count 156 = .ok (.iconst 0, 1) := by decide +kernel
theorem dX10_count_157 : decode cX10_count 157 = .ok (.iadd, 1) := by decide +kernel
theorem dX10_count_158 : decode cX10_count 158 = .ok (.istore_n 2, 1) := by decide +kernel
theorem dX10_count_159 : decode cX10_count 159 = .ok (.iinc 3 1, 3) := by decide +kernel
theorem dX10_count_162 : decode cX10_count 162 = .ok (.goto (-91), 3) := by decide +kernel
theorem dX10_count_165 : decode cX10_count 165 = .ok (.iload_n 2, 1) := by decide +kernel
theorem dX10_count_166 : decode cX10_count 166 = .ok (.ireturn, 1) := by decide +kernel
theorem dX10_count_167 : decode cX10_count 167 = .ok (.iconst (-1), 1) := by decide +kernel
theorem dX10_count_168 : decode cX10_count 168 = .ok (.ireturn, 1) := by decide +kernel
theorem dX10_keep_0 : decode cX10_keep 0 = .ok (.iload_n 1, 1) := by decide +kernel
theorem dX10_keep_1 : decode cX10_keep 1 = .ok (.bipush 8, 2) := by decide +kernel
theorem dX10_keep_3 : decode cX10_keep 3 = .ok (.invokestatic 119, 3) := by decide +kernel
theorem dX10_keep_6 : decode cX10_keep 6 = .ok (.ifCond .eq 22, 3) := by decide +kernel
theorem dX10_keep_9 : decode cX10_keep 9 = .ok (.iload_n 2, 1) := by decide +kernel
theorem dX10_keep_10 : decode cX10_keep 10 = .ok (.ifCond .eq 20, 3) := by decide +kernel
theorem dX10_keep_13 : decode cX10_keep 13 = .ok (.iload_n 2, 1) := by decide +kernel
theorem dX10_keep_14 : decode cX10_keep 14 = .ok (.iconst 1, 1) := by decide +kernel
theorem dX10_keep_15 : decode cX10_keep 15 = .ok (.if_icmp .eq 15, 3) := by decide +kernel
theorem dX10_keep_18 : decode cX10_keep 18 = .ok (.iload_n 2, 1) := by decide +kernel
theorem dX10_keep_19 : decode cX10_keep 19 = .ok (.iconst 3, 1) := by decide +kernel
theorem dX10_keep_20 : decode cX10_keep 20 = .ok (.if_icmp .eq 10, 3) := by decide +kernel
theorem dX10_keep_23 : decode cX10_keep 23 = .ok (.iload_n 2, 1) := by decide +kernel
theorem dX10_keep_24 : decode cX10_keep 24 = .ok (.iconst 4, 1) := by decide +kernel
theorem dX10_keep_25 : decode cX10_keep 25 = .ok (.if_icmp .eq 5, 3) := by decide +kernel
theorem dX10_keep_28 : decode cX10_keep 28 = .ok (.iconst (-1), 1) := by decide +kernel
theorem dX10_keep_29 : decode cX10_keep 29 = .ok (.ireturn, 1) := by decide +kernel
theorem dX10_keep_30 : decode cX10_keep 30 = .ok (.iload_n 2, 1) := by decide +kernel
theorem dX10_keep_31 : decode cX10_keep 31 = .ok (.iconst 1, 1) := by decide +kernel
theorem dX10_keep_32 : decode cX10_keep 32 = .ok (.if_icmp .eq 8, 3) := by decide +kernel
theorem dX10_keep_35 : decode cX10_keep 35 = .ok (.iload_n 2, 1) := by decide +kernel
theorem dX10_keep_36 : decode cX10_keep 36 = .ok (.iconst 3, 1) := by decide +kernel
theorem dX10_keep_37 : decode cX10_keep 37 = .ok (.if_icmp .ne 14, 3) := by decide +kernel
theorem dX10_keep_40 : decode cX10_keep 40 = .ok (.iload_n 3, 1) := by decide +kernel
theorem dX10_keep_41 : decode cX10_keep 41 = .ok (.aload_n 0, 1) := by decide +kernel
theorem dX10_keep_42 : decode cX10_keep 42 = .ok (.getfield 116, 3) := by decide +kernel
theorem dX10_keep_45 : decode cX10_keep 45 = .ok (.invokestatic 119, 3) := by decide +kernel
theorem dX10_keep_48 : decode cX10_keep 48 = .ok (.ifCond .eq 19, 3) := by decide +kernel
theorem dX10_keep_51 : decode cX10_keep 51 = .ok (.iload_n 2, 1) := by decide +kernel
theorem dX10_keep_52 : decode cX10_keep 52 = .ok (.iconst 4, 1) := by decide +kernel
theorem dX10_keep_53 : decode cX10_keep 53 = .ok (.if_icmp .ne 16, 3) := by decide +kernel
theorem dX10_keep_56 : decode cX10_keep 56 = .ok (.iload_n 3, 1) := by decide +kernel
theorem dX10_keep_57 : decode cX10_keep 57 = .ok (.aload_n 0, 1) := by decide +kernel
theorem dX10_keep_58 : decode cX10_keep 58 = .ok (.getfield 110, 3) := by decide +kernel
theorem dX10_keep_61 : decode cX10_keep 61 = .ok (.invokestatic 119, 3) := by decide +kernel
theorem dX10_keep_64 : decode cX10_keep 64 = .ok (.ifCond .ne 5, 3) := by decide +kernel
theorem dX10_keep_67 : decode cX10_keep 67 = .ok (.iconst (-1), 1) := by decide +kernel
theorem dX10_keep_68 : decode cX10_keep 68 = .ok (.ireturn, 1) := by decide +kernel
theorem dX10_keep_69 : decode cX10_keep 69 = .ok (.aload_n 0, 1) := by decide +kernel
theorem dX10_keep_70 : decode cX10_keep 70 = .ok (.getfield 69, 3) := by decide +kernel
theorem dX10_keep_73 : decode cX10_keep 73 = .ok (.iload_n 1, 1) := by decide +kernel
theorem dX10_keep_74 : decode cX10_keep 74 = .ok (.iload_n 2, 1) := by decide +kernel
theorem dX10_keep_75 : decode cX10_keep 75 = .ok (.iastore, 1) := by decide +kernel
theorem dX10_keep_76 : decode cX10_keep 76 = .ok (.iload_n 2, 1) := by decide +kernel
theorem dX10_keep_77 : decode cX10_keep 77 = .ok (.iconst 1, 1) := by decide +kernel
theorem dX10_keep_78 : decode cX10_keep 78 = .ok (.if_icmp .ne 72, 3) := by decide +kernel
theorem dX10_keep_81 : decode cX10_keep 81 = .ok (.aload_n 0, 1) := by decide +kernel
theorem dX10_keep_82 : decode cX10_keep 82 = .ok (.getfield 75, 3) := by decide +kernel
theorem dX10_keep_85 : decode cX10_keep 85 = .ok (.iload_n 1, 1) := by decide +kernel
theorem dX10_keep_86 : decode cX10_keep 86 = .ok (.aload_n 0, 1) := by decide +kernel
theorem dX10_keep_87 : decode cX10_keep 87 = .ok (.getfield 16, 3) := by decide +kernel
theorem dX10_keep_90 : decode cX10_keep 90 = .ok (.iload_n 3, 1) := by decide +kernel
theorem dX10_keep_91 : decode cX10_keep 91 = .ok (.iaload, 1) := by decide +kernel
theorem dX10_keep_92 : decode cX10_keep 92 = .ok (.iastore, 1) := by decide +kernel
theorem dX10_keep_93 : decode cX10_keep 93 = .ok (.aload_n 0, 1) := by decide +kernel
theorem dX10_keep_94 : decode cX10_keep 94 = .ok (.getfield 78, 3) := by decide +kernel
theorem dX10_keep_97 : decode cX10_keep 97 = .ok (.iload_n 1, 1) := by decide +kernel
theorem dX10_keep_98 : decode cX10_keep 98 = .ok (.iload_n 3, 1) := by decide +kernel
theorem dX10_keep_99 : decode cX10_keep 99 = .ok (.iastore, 1) := by decide +kernel
theorem dX10_keep_100 : decode cX10_keep 100 = .ok (.aload_n 0, 1) := by decide +kernel
theorem dX10_keep_101 : decode cX10_keep 101 = .ok (.getfield 81, 3) := by decide +kernel
theorem dX10_keep_104 : decode cX10_keep 104 = .ok (.iload_n 1, 1) := by decide +kernel
theorem dX10_keep_105 : decode cX10_keep 105 = .ok (.iconst 0, 1) := by decide +kernel
theorem dX10_keep_106 : decode cX10_keep 106 = .ok (.iastore, 1) := by decide +kernel
theorem dX10_keep_107 : decode cX10_keep 107 = .ok (.iconst 0, 1) := by decide +kernel
theorem dX10_keep_108 : decode cX10_keep 108 = .ok (.istore 4, 2) := by decide +kernel
theorem dX10_keep_110 : decode cX10_keep 110 = .ok (.iload 4, 2) := by decide +kernel
theorem dX10_keep_112 : decode cX10_keep 112 = .ok (.aload_n 0, 1) := by decide +kernel
theorem dX10_keep_113 : decode cX10_keep 113 = .ok (.getfield 97, 3) := by decide +kernel
theorem dX10_keep_116 : decode cX10_keep 116 = .ok (.iconst 1, 1) := by decide +kernel
theorem dX10_keep_117 : decode cX10_keep 117 = .ok (.isub, 1) := by decide +kernel
theorem dX10_keep_118 : decode cX10_keep 118 = .ok (.if_icmp .ge 29, 3) := by decide +kernel
theorem dX10_keep_121 : decode cX10_keep 121 = .ok (.aload_n 0, 1) := by decide +kernel
theorem dX10_keep_122 : decode cX10_keep 122 = .ok (.getfield 81, 3) := by decide +kernel
theorem dX10_keep_125 : decode cX10_keep 125 = .ok (.iload_n 1, 1) := by decide +kernel
theorem dX10_keep_126 : decode cX10_keep 126 = .ok (.dup2, 1) := by decide +kernel
theorem dX10_keep_127 : decode cX10_keep 127 = .ok (.iaload, 1) := by decide +kernel
theorem dX10_keep_128 : decode cX10_keep 128 = .ok (.aload_n 0, 1) := by decide +kernel
theorem dX10_keep_129 : decode cX10_keep 129 = .ok (.getfield 32, 3) := by decide +kernel
theorem dX10_keep_132 : decode cX10_keep 132 = .ok (.iconst 4, 1) := by decide +kernel
theorem dX10_keep_133 : decode cX10_keep 133 = .ok (.iload_n 3, 1) := by decide +kernel
theorem dX10_keep_134 : decode cX10_keep 134 = .ok (.imul, 1) := by decide +kernel
theorem dX10_keep_135 : decode cX10_keep 135 = .ok (.iload 4, 2) := by decide +kernel
theorem dX10_keep_137 : decode cX10_keep 137 = .ok (.iadd, 1) := by decide +kernel
theorem dX10_keep_138 : decode cX10_keep 138 = .ok (.iaload, 1) := by decide +kernel
theorem dX10_keep_139 : decode cX10_keep 139 = .ok (.iadd, 1) := by decide +kernel
theorem dX10_keep_140 : decode cX10_keep 140 = .ok (.iastore, 1) := by decide +kernel
theorem dX10_keep_141 : decode cX10_keep 141 = .ok (.iinc 4 1, 3) := by decide +kernel
theorem dX10_keep_144 : decode cX10_keep 144 = .ok (.goto (-34), 3) := by decide +kernel
theorem dX10_keep_147 : decode cX10_keep 147 = .ok (.goto 123, 3) := by decide +kernel
theorem dX10_keep_150 : decode cX10_keep 150 = .ok (.iload_n 2, 1) := by decide +kernel
theorem dX10_keep_151 : decode cX10_keep 151 = .ok (.iconst 3, 1) := by decide +kernel
theorem dX10_keep_152 : decode cX10_keep 152 = .ok (.if_icmp .ne 61, 3) := by decide +kernel
theorem dX10_keep_155 : decode cX10_keep 155 = .ok (.aload_n 0, 1) := by decide +kernel
theorem dX10_keep_156 : decode cX10_keep 156 = .ok (.getfield 72, 3) := by decide +kernel
theorem dX10_keep_159 : decode cX10_keep 159 = .ok (.iload_n 1, 1) := by decide +kernel
theorem dX10_keep_160 : decode cX10_keep 160 = .ok (.aload_n 0, 1) := by decide +kernel
theorem dX10_keep_161 : decode cX10_keep 161 = .ok (.getfield 113, 3) := by decide +kernel
theorem dX10_keep_164 : decode cX10_keep 164 = .ok (.bipush 60, 2) := by decide +kernel
theorem dX10_keep_166 : decode cX10_keep 166 = .ok (.invokestatic 171, 3) := by decide +kernel
theorem dX10_keep_169 : decode cX10_keep 169 = .ok (.iastore, 1) := by decide +kernel
theorem dX10_keep_170 : decode cX10_keep 170 = .ok (.iconst 0, 1) := by decide +kernel
theorem dX10_keep_171 : decode cX10_keep 171 = .ok (.istore 4, 2) := by decide +kernel
theorem dX10_keep_173 : decode cX10_keep 173 = .ok (.iload 4, 2) := by decide +kernel
theorem dX10_keep_175 : decode cX10_keep 175 = .ok (.aload_n 0, 1) := by decide +kernel
theorem dX10_keep_176 : decode cX10_keep 176 = .ok (.getfield 72, 3) := by decide +kernel
theorem dX10_keep_179 : decode cX10_keep 179 = .ok (.iload_n 1, 1) := by decide +kernel
theorem dX10_keep_180 : decode cX10_keep 180 = .ok (.iaload, 1) := by decide +kernel
theorem dX10_keep_181 : decode cX10_keep 181 = .ok (.if_icmp .ge 29, 3) := by decide +kernel
theorem dX10_keep_184 : decode cX10_keep 184 = .ok (.aload_n 0, 1) := by decide +kernel
theorem dX10_keep_185 : decode cX10_keep 185 = .ok (.getfield 84, 3) := by decide +kernel
theorem dX10_keep_188 : decode cX10_keep 188 = .ok (.bipush 60, 2) := by decide +kernel
theorem dX10_keep_190 : decode cX10_keep 190 = .ok (.iload_n 1, 1) := by decide +kernel
theorem dX10_keep_191 : decode cX10_keep 191 = .ok (.imul, 1) := by decide +kernel
theorem dX10_keep_192 : decode cX10_keep 192 = .ok (.iload 4, 2) := by decide +kernel
theorem dX10_keep_194 : decode cX10_keep 194 = .ok (.iadd, 1) := by decide +kernel
theorem dX10_keep_195 : decode cX10_keep 195 = .ok (.aload_n 0, 1) := by decide +kernel
theorem dX10_keep_196 : decode cX10_keep 196 = .ok (.iload_n 3, 1) := by decide +kernel
theorem dX10_keep_197 : decode cX10_keep 197 = .ok (.iload 4, 2) := by decide +kernel
theorem dX10_keep_199 : decode cX10_keep 199 = .ok (.invokevirtual 144, 3) := by decide +kernel
theorem dX10_keep_202 : decode cX10_keep 202 = .ok (.i2l, 1) := by decide +kernel
theorem dX10_keep_203 : decode cX10_keep 203 = .ok (.lastore, 1) := by decide +kernel
theorem dX10_keep_204 : decode cX10_keep 204 = .ok (.iinc 4 1, 3) := by decide +kernel
theorem dX10_keep_207 : decode cX10_keep 207 = .ok (.goto (-34), 3) := by decide +kernel
theorem dX10_keep_210 : decode cX10_keep 210 = .ok (.goto 60, 3) := by decide +kernel
theorem dX10_keep_213 : decode cX10_keep 213 = .ok (.iload_n 2, 1) := by decide +kernel
theorem dX10_keep_214 : decode cX10_keep 214 = .ok (.iconst 4, 1) := by decide +kernel
theorem dX10_keep_215 : decode cX10_keep 215 = .ok (.if_icmp .ne 55, 3) := by decide +kernel
theorem dX10_keep_218 : decode cX10_keep 218 = .ok (.aload_n 0, 1) := by decide +kernel
theorem dX10_keep_219 : decode cX10_keep 219 = .ok (.getfield 72, 3) := by decide +kernel
theorem dX10_keep_222 : decode cX10_keep 222 = .ok (.iload_n 1, 1) := by decide +kernel
theorem dX10_keep_223 : decode cX10_keep 223 = .ok (.aload_n 0, 1) := by decide +kernel
theorem dX10_keep_224 : decode cX10_keep 224 = .ok (.getfield 101, 3) := by decide +kernel
theorem dX10_keep_227 : decode cX10_keep 227 = .ok (.iastore, 1) := by decide +kernel
theorem dX10_keep_228 : decode cX10_keep 228 = .ok (.iconst 0, 1) := by decide +kernel
theorem dX10_keep_229 : decode cX10_keep 229 = .ok (.istore 4, 2) := by decide +kernel
theorem dX10_keep_231 : decode cX10_keep 231 = .ok (.iload 4, 2) := by decide +kernel
theorem dX10_keep_233 : decode cX10_keep 233 = .ok (.aload_n 0, 1) := by decide +kernel
theorem dX10_keep_234 : decode cX10_keep 234 = .ok (.getfield 101, 3) := by decide +kernel
theorem dX10_keep_237 : decode cX10_keep 237 = .ok (.if_icmp .ge 33, 3) := by decide +kernel
theorem dX10_keep_240 : decode cX10_keep 240 = .ok (.aload_n 0, 1) := by decide +kernel
theorem dX10_keep_241 : decode cX10_keep 241 = .ok (.getfield 84, 3) := by decide +kernel
theorem dX10_keep_244 : decode cX10_keep 244 = .ok (.bipush 60, 2) := by decide +kernel
theorem dX10_keep_246 : decode cX10_keep 246 = .ok (.iload_n 1, 1) := by decide +kernel
theorem dX10_keep_247 : decode cX10_keep 247 = .ok (.imul, 1) := by decide +kernel
theorem dX10_keep_248 : decode cX10_keep 248 = .ok (.iload 4, 2) := by decide +kernel
theorem dX10_keep_250 : decode cX10_keep 250 = .ok (.iadd, 1) := by decide +kernel
theorem dX10_keep_251 : decode cX10_keep 251 = .ok (.aload_n 0, 1) := by decide +kernel
theorem dX10_keep_252 : decode cX10_keep 252 = .ok (.getfield 9, 3) := by decide +kernel
theorem dX10_keep_255 : decode cX10_keep 255 = .ok (.iconst 5, 1) := by decide +kernel
theorem dX10_keep_256 : decode cX10_keep 256 = .ok (.iload_n 3, 1) := by decide +kernel
theorem dX10_keep_257 : decode cX10_keep 257 = .ok (.imul, 1) := by decide +kernel
theorem dX10_keep_258 : decode cX10_keep 258 = .ok (.iload 4, 2) := by decide +kernel
theorem dX10_keep_260 : decode cX10_keep 260 = .ok (.iadd, 1) := by decide +kernel
theorem dX10_keep_261 : decode cX10_keep 261 = .ok (.iaload, 1) := by decide +kernel
theorem dX10_keep_262 : decode cX10_keep 262 = .ok (.i2l, 1) := by decide +kernel
theorem dX10_keep_263 : decode cX10_keep 263 = .ok (.lastore, 1) := by decide +kernel
theorem dX10_keep_264 : decode cX10_keep 264 = .ok (.iinc 4 1, 3) := by decide +kernel
theorem dX10_keep_267 : decode cX10_keep 267 = .ok (.goto (-36), 3) := by decide +kernel
theorem dX10_keep_270 : decode cX10_keep 270 = .ok (.iconst 0, 1) := by decide +kernel
theorem dX10_keep_271 : decode cX10_keep 271 = .ok (.ireturn, 1) := by decide +kernel
theorem dX10_make_0 : decode cX10_make 0 = .ok (.iload_n 1, 1) := by decide +kernel
theorem dX10_make_1 : decode cX10_make 1 = .ok (.bipush 8, 2) := by decide +kernel
theorem dX10_make_3 : decode cX10_make 3 = .ok (.invokestatic 119, 3) := by decide +kernel
theorem dX10_make_6 : decode cX10_make 6 = .ok (.ifCond .eq 19, 3) := by decide +kernel
theorem dX10_make_9 : decode cX10_make 9 = .ok (.iload_n 2, 1) := by decide +kernel
theorem dX10_make_10 : decode cX10_make 10 = .ok (.iconst 3, 1) := by decide +kernel
theorem dX10_make_11 : decode cX10_make 11 = .ok (.if_icmp .eq 8, 3) := by decide +kernel
theorem dX10_make_14 : decode cX10_make 14 = .ok (.iload_n 2, 1) := by decide +kernel
theorem dX10_make_15 : decode cX10_make 15 = .ok (.iconst 4, 1) := by decide +kernel
theorem dX10_make_16 : decode cX10_make 16 = .ok (.if_icmp .ne 9, 3) := by decide +kernel
theorem dX10_make_19 : decode cX10_make 19 = .ok (.iload_n 3, 1) := by decide +kernel
theorem dX10_make_20 : decode cX10_make 20 = .ok (.bipush 60, 2) := by decide +kernel
theorem dX10_make_22 : decode cX10_make 22 = .ok (.if_icmp .le 5, 3) := by decide +kernel
theorem dX10_make_25 : decode cX10_make 25 = .ok (.iconst (-1), 1) := by decide +kernel
theorem dX10_make_26 : decode cX10_make 26 = .ok (.ireturn, 1) := by decide +kernel
theorem dX10_make_27 : decode cX10_make 27 = .ok (.iload_n 3, 1) := by decide +kernel
theorem dX10_make_28 : decode cX10_make 28 = .ok (.ifCond .ge 6, 3) := by decide +kernel
theorem dX10_make_31 : decode cX10_make 31 = .ok (.bipush (-14), 2) := by decide +kernel
theorem dX10_make_33 : decode cX10_make 33 = .ok (.ireturn, 1) := by decide +kernel
theorem dX10_make_34 : decode cX10_make 34 = .ok (.aload_n 0, 1) := by decide +kernel
theorem dX10_make_35 : decode cX10_make 35 = .ok (.getfield 69, 3) := by decide +kernel
theorem dX10_make_38 : decode cX10_make 38 = .ok (.iload_n 1, 1) := by decide +kernel
theorem dX10_make_39 : decode cX10_make 39 = .ok (.iload_n 2, 1) := by decide +kernel
theorem dX10_make_40 : decode cX10_make 40 = .ok (.iastore, 1) := by decide +kernel
theorem dX10_make_41 : decode cX10_make 41 = .ok (.aload_n 0, 1) := by decide +kernel
theorem dX10_make_42 : decode cX10_make 42 = .ok (.getfield 72, 3) := by decide +kernel
theorem dX10_make_45 : decode cX10_make 45 = .ok (.iload_n 1, 1) := by decide +kernel
theorem dX10_make_46 : decode cX10_make 46 = .ok (.iload_n 3, 1) := by decide +kernel
theorem dX10_make_47 : decode cX10_make 47 = .ok (.iastore, 1) := by decide +kernel
theorem dX10_make_48 : decode cX10_make 48 = .ok (.iconst 0, 1) := by decide +kernel
theorem dX10_make_49 : decode cX10_make 49 = .ok (.istore 4, 2) := by decide +kernel
theorem dX10_make_51 : decode cX10_make 51 = .ok (.iload 4, 2) := by decide +kernel
theorem dX10_make_53 : decode cX10_make 53 = .ok (.iload_n 3, 1) := by decide +kernel
theorem dX10_make_54 : decode cX10_make 54 = .ok (.if_icmp .ge 22, 3) := by decide +kernel
theorem dX10_make_57 : decode cX10_make 57 = .ok (.aload_n 0, 1) := by decide +kernel
theorem dX10_make_58 : decode cX10_make 58 = .ok (.getfield 84, 3) := by decide +kernel
theorem dX10_make_61 : decode cX10_make 61 = .ok (.bipush 60, 2) := by decide +kernel
theorem dX10_make_63 : decode cX10_make 63 = .ok (.iload_n 1, 1) := by decide +kernel
theorem dX10_make_64 : decode cX10_make 64 = .ok (.imul, 1) := by decide +kernel
theorem dX10_make_65 : decode cX10_make 65 = .ok (.iload 4, 2) := by decide +kernel
theorem dX10_make_67 : decode cX10_make 67 = .ok (.iadd, 1) := by decide +kernel
theorem dX10_make_68 : decode cX10_make 68 = .ok (.lconst 0, 1) := by decide +kernel
theorem dX10_make_69 : decode cX10_make 69 = .ok (.lastore, 1) := by decide +kernel
theorem dX10_make_70 : decode cX10_make 70 = .ok (.iinc 4 1, 3) := by decide +kernel
theorem dX10_make_73 : decode cX10_make 73 = .ok (.goto (-22), 3) := by decide +kernel
theorem dX10_make_76 : decode cX10_make 76 = .ok (.iconst 0, 1) := by decide +kernel
theorem dX10_make_77 : decode cX10_make 77 = .ok (.ireturn, 1) := by decide +kernel
theorem dX10_element_0 : decode cX10_element 0 = .ok (.aload_n 0, 1) := by decide +kernel
theorem dX10_element_1 : decode cX10_element 1 = .ok (.iconst 0, 1) := by decide +kernel
theorem dX10_element_2 : decode cX10_element 2 = .ok (.putfield 107, 3) := by decide +kernel
theorem dX10_element_5 : decode cX10_element 5 = .ok (.iload_n 1, 1) := by decide +kernel
theorem dX10_element_6 : decode cX10_element 6 = .ok (.bipush 8, 2) := by decide +kernel
theorem dX10_element_8 : decode cX10_element 8 = .ok (.invokestatic 119, 3) := by decide +kernel
theorem dX10_element_11 : decode cX10_element 11 = .ok (.ifCond .ne 10, 3) := by decide +kernel
theorem dX10_element_14 : decode cX10_element 14 = .ok (.aload_n 0, 1) := by decide +kernel
theorem dX10_element_15 : decode cX10_element 15 = .ok (.iconst 1, 1) := by decide +kernel
theorem dX10_element_16 : decode cX10_element 16 = .ok (.invokevirtual 147, 3) := by decide +kernel
theorem dX10_element_19 : decode cX10_element 19 = .ok (.i2l, 1) := by decide +kernel
theorem dX10_element_20 : decode cX10_element 20 = .ok (.lreturn, 1) := by decide +kernel
theorem dX10_element_21 : decode cX10_element 21 = .ok (.aload_n 0, 1) := by decide +kernel
theorem dX10_element_22 : decode cX10_element 22 = .ok (.getfield 69, 3) := by decide +kernel
theorem dX10_element_25 : decode cX10_element 25 = .ok (.iload_n 1, 1) := by decide +kernel
theorem dX10_element_26 : decode cX10_element 26 = .ok (.iaload, 1) := by decide +kernel
theorem dX10_element_27 : decode cX10_element 27 = .ok (.iconst 3, 1) := by decide +kernel
theorem dX10_element_28 : decode cX10_element 28 = .ok (.if_icmp .lt 16, 3) := by decide +kernel
theorem dX10_element_31 : decode cX10_element 31 = .ok (.iload_n 2, 1) := by decide +kernel
theorem dX10_element_32 : decode cX10_element 32 = .ok (.aload_n 0, 1) := by decide +kernel
theorem dX10_element_33 : decode cX10_element 33 = .ok (.getfield 72, 3) := by decide +kernel
theorem dX10_element_36 : decode cX10_element 36 = .ok (.iload_n 1, 1) := by decide +kernel
theorem dX10_element_37 : decode cX10_element 37 = .ok (.iaload, 1) := by decide +kernel
theorem dX10_element_38 : decode cX10_element 38 = .ok (.invokestatic 119, 3) := by decide +kernel
theorem dX10_element_41 : decode cX10_element 41 = .ok (.ifCond .ne 10, 3) := by decide +kernel
theorem dX10_element_44 : decode cX10_element 44 = .ok (.aload_n 0, 1) := by decide +kernel
theorem dX10_element_45 : decode cX10_element 45 = .ok (.iconst 2, 1) := by decide +kernel
theorem dX10_element_46 : decode cX10_element 46 = .ok (.invokevirtual 147, 3) := by decide +kernel
theorem dX10_element_49 : decode cX10_element 49 = .ok (.i2l, 1) := by decide +kernel
theorem dX10_element_50 : decode cX10_element 50 = .ok (.lreturn, 1) := by decide +kernel
theorem dX10_element_51 : decode cX10_element 51 = .ok (.aload_n 0, 1) := by decide +kernel
theorem dX10_element_52 : decode cX10_element 52 = .ok (.getfield 84, 3) := by decide +kernel
theorem dX10_element_55 : decode cX10_element 55 = .ok (.bipush 60, 2) := by decide +kernel
theorem dX10_element_57 : decode cX10_element 57 = .ok (.iload_n 1, 1) := by decide +kernel
theorem dX10_element_58 : decode cX10_element 58 = .ok (.imul, 1) := by decide +kernel
theorem dX10_element_59 : decode cX10_element 59 = .ok (.iload_n 2, 1) := by decide +kernel
theorem dX10_element_60 : decode cX10_element 60 = .ok (.iadd, 1) := by decide +kernel
theorem dX10_element_61 : decode cX10_element 61 = .ok (.laload, 1) := by decide +kernel
theorem dX10_element_62 : decode cX10_element 62 = .ok (.lreturn, 1) := by decide +kernel
theorem dX10_copy_0 : decode cX10_copy 0 = .ok (.iload_n 1, 1) := by decide +kernel
theorem dX10_copy_1 : decode cX10_copy 1 = .ok (.bipush 8, 2) := by decide +kernel
theorem dX10_copy_3 : decode cX10_copy 3 = .ok (.invokestatic 119, 3) := by decide +kernel
theorem dX10_copy_6 : decode cX10_copy 6 = .ok (.ifCond .eq 12, 3) := by decide +kernel
theorem dX10_copy_9 : decode cX10_copy 9 = .ok (.iload_n 3, 1) := by decide +kernel
theorem dX10_copy_10 : decode cX10_copy 10 = .ok (.bipush 8, 2) := by decide +kernel
theorem dX10_copy_12 : decode cX10_copy 12 = .ok (.invokestatic 119, 3) := by decide +kernel
theorem dX10_copy_15 : decode cX10_copy 15 = .ok (.ifCond .ne 5, 3) := by decide +kernel
theorem dX10_copy_18 : decode cX10_copy 18 = .ok (.iconst (-1), 1) := by decide +kernel
theorem dX10_copy_19 : decode cX10_copy 19 = .ok (.ireturn, 1) := by decide +kernel
theorem dX10_copy_20 : decode cX10_copy 20 = .ok (.aload_n 0, 1) := by decide +kernel
theorem dX10_copy_21 : decode cX10_copy 21 = .ok (.getfield 69, 3) := by decide +kernel
theorem dX10_copy_24 : decode cX10_copy 24 = .ok (.iload_n 1, 1) := by decide +kernel
theorem dX10_copy_25 : decode cX10_copy 25 = .ok (.iaload, 1) := by decide +kernel
theorem dX10_copy_26 : decode cX10_copy 26 = .ok (.ifCond .eq 12, 3) := by decide +kernel
theorem dX10_copy_29 : decode cX10_copy 29 = .ok (.aload_n 0, 1) := by decide +kernel
theorem dX10_copy_30 : decode cX10_copy 30 = .ok (.getfield 69, 3) := by decide +kernel
theorem dX10_copy_33 : decode cX10_copy 33 = .ok (.iload_n 3, 1) := by decide +kernel
theorem dX10_copy_34 : decode cX10_copy 34 = .ok (.iaload, 1) := by decide +kernel
theorem dX10_copy_35 : decode cX10_copy 35 = .ok (.ifCond .ne 6, 3) := by decide +kernel
theorem dX10_copy_38 : decode cX10_copy 38 = .ok (.bipush (-11), 2) := by decide +kernel
theorem dX10_copy_40 : decode cX10_copy 40 = .ok (.ireturn, 1) := by decide +kernel
theorem dX10_copy_41 : decode cX10_copy 41 = .ok (.aload_n 0, 1) := by decide +kernel
theorem dX10_copy_42 : decode cX10_copy 42 = .ok (.getfield 69, 3) := by decide +kernel
theorem dX10_copy_45 : decode cX10_copy 45 = .ok (.iload_n 1, 1) := by decide +kernel
theorem dX10_copy_46 : decode cX10_copy 46 = .ok (.iaload, 1) := by decide +kernel
theorem dX10_copy_47 : decode cX10_copy 47 = .ok (.iconst 3, 1) := by decide +kernel
theorem dX10_copy_48 : decode cX10_copy 48 = .ok (.if_icmp .lt 18, 3) := by decide +kernel
theorem dX10_copy_51 : decode cX10_copy 51 = .ok (.aload_n 0, 1) := by decide +kernel
theorem dX10_copy_52 : decode cX10_copy 52 = .ok (.getfield 69, 3) := by decide +kernel
theorem dX10_copy_55 : decode cX10_copy 55 = .ok (.iload_n 1, 1) := by decide +kernel
theorem dX10_copy_56 : decode cX10_copy 56 = .ok (.iaload, 1) := by decide +kernel
theorem dX10_copy_57 : decode cX10_copy 57 = .ok (.aload_n 0, 1) := by decide +kernel
theorem dX10_copy_58 : decode cX10_copy 58 = .ok (.getfield 69, 3) := by decide +kernel
theorem dX10_copy_61 : decode cX10_copy 61 = .ok (.iload_n 3, 1) := by decide +kernel
theorem dX10_copy_62 : decode cX10_copy 62 = .ok (.iaload, 1) := by decide +kernel
theorem dX10_copy_63 : decode cX10_copy 63 = .ok (.if_icmp .eq 6, 3) := by decide +kernel
theorem dX10_copy_66 : decode cX10_copy 66 = .ok (.bipush (-12), 2) := by decide +kernel
theorem dX10_copy_68 : decode cX10_copy 68 = .ok (.ireturn, 1) := by decide +kernel
theorem dX10_copy_69 : decode cX10_copy 69 = .ok (.iload 5, 2) := by decide +kernel
theorem dX10_copy_71 : decode cX10_copy 71 = .ok (.ifCond .lt 47, 3) := by decide +kernel
theorem dX10_copy_74 : decode cX10_copy 74 = .ok (.iload_n 2, 1) := by decide +kernel
theorem dX10_copy_75 : decode cX10_copy 75 = .ok (.ifCond .lt 43, 3) := by decide +kernel
theorem dX10_copy_78 : decode cX10_copy 78 = .ok (.iload 4, 2) := by decide +kernel
theorem dX10_copy_80 : decode cX10_copy 80 = .ok (.ifCond .lt 38, 3) := by decide +kernel
theorem dX10_copy_83 : decode cX10_copy 83 = .ok (.iload_n 2, 1) := by decide +kernel
theorem dX10_copy_84 : decode cX10_copy 84 = .ok (.i2l, 1) := by decide +kernel
theorem dX10_copy_85 : decode cX10_copy 85 = .ok (.iload 5, 2) := by decide +kernel
theorem dX10_copy_87 : decode cX10_copy 87 = .ok (.i2l, 1) := by decide +kernel
theorem dX10_copy_88 : decode cX10_copy 88 = .ok (.ladd, 1) := by decide +kernel
theorem dX10_copy_89 : decode cX10_copy 89 = .ok (.aload_n 0, 1) := by decide +kernel
theorem dX10_copy_90 : decode cX10_copy 90 = .ok (.getfield 72, 3) := by decide +kernel
theorem dX10_copy_93 : decode cX10_copy 93 = .ok (.iload_n 1, 1) := by decide +kernel
theorem dX10_copy_94 : decode cX10_copy 94 = .ok (.iaload, 1) := by decide +kernel
theorem dX10_copy_95 : decode cX10_copy 95 = .ok (.i2l, 1) := by decide +kernel
theorem dX10_copy_96 : decode cX10_copy 96 = .ok (.lcmp, 1) := by decide +kernel
theorem dX10_copy_97 : decode cX10_copy 97 = .ok (.ifCond .gt 21, 3) := by decide +kernel
theorem dX10_copy_100 : decode cX10_copy 100 = .ok (.iload 4, 2) := by decide +kernel
theorem dX10_copy_102 : decode cX10_copy 102 = .ok (.i2l, 1) := by decide +kernel
theorem dX10_copy_103 : decode cX10_copy 103 = .ok (.iload 5, 2) := by decide +kernel
theorem dX10_copy_105 : decode cX10_copy 105 = .ok (.i2l, 1) := by decide +kernel
theorem dX10_copy_106 : decode cX10_copy 106 = .ok (.ladd, 1) := by decide +kernel
theorem dX10_copy_107 : decode cX10_copy 107 = .ok (.aload_n 0, 1) := by decide +kernel
theorem dX10_copy_108 : decode cX10_copy 108 = .ok (.getfield 72, 3) := by decide +kernel
theorem dX10_copy_111 : decode cX10_copy 111 = .ok (.iload_n 3, 1) := by decide +kernel
theorem dX10_copy_112 : decode cX10_copy 112 = .ok (.iaload, 1) := by decide +kernel
theorem dX10_copy_113 : decode cX10_copy 113 = .ok (.i2l, 1) := by decide +kernel
theorem dX10_copy_114 : decode cX10_copy 114 = .ok (.lcmp, 1) := by decide +kernel
theorem dX10_copy_115 : decode cX10_copy 115 = .ok (.ifCond .le 6, 3) := by decide +kernel
theorem dX10_copy_118 : decode cX10_copy 118 = .ok (.bipush (-13), 2) := by decide +kernel
theorem dX10_copy_120 : decode cX10_copy 120 = .ok (.ireturn, 1) := by decide +kernel
theorem dX10_copy_121 : decode cX10_copy 121 = .ok (.iconst 0, 1) := by decide +kernel
theorem dX10_copy_122 : decode cX10_copy 122 = .ok (.istore 6, 2) := by decide +kernel
theorem dX10_copy_124 : decode cX10_copy 124 = .ok (.iload 6, 2) := by decide +kernel
theorem dX10_copy_126 : decode cX10_copy 126 = .ok (.iload 5, 2) := by decide +kernel
theorem dX10_copy_128 : decode cX10_copy 128 = .ok (.if_icmp .ge 30, 3) := by decide +kernel
theorem dX10_copy_131 : decode cX10_copy 131 = .ok (.aload_n 0, 1) := by decide +kernel
theorem dX10_copy_132 : decode cX10_copy 132 = .ok (.getfield 88, 3) := by decide +kernel
theorem dX10_copy_135 : decode cX10_copy 135 = .ok (.iload 6, 2) := by decide +kernel
theorem dX10_copy_137 : decode cX10_copy 137 = .ok (.aload_n 0, 1) := by decide +kernel
theorem dX10_copy_138 : decode cX10_copy 138 = .ok (.getfield 84, 3) := by decide +kernel
theorem dX10_copy_141 : decode cX10_copy 141 = .ok (.bipush 60, 2) := by decide +kernel
theorem dX10_copy_143 : decode cX10_copy 143 = .ok (.iload_n 1, 1) := by decide +kernel
theorem dX10_copy_144 : decode cX10_copy 144 = .ok (.imul, 1) := by decide +kernel
theorem dX10_copy_145 : decode cX10_copy 145 = .ok (.iload_n 2, 1) := by decide +kernel
theorem dX10_copy_146 : decode cX10_copy 146 = .ok (.iadd, 1) := by decide +kernel
theorem dX10_copy_147 : decode cX10_copy 147 = .ok (.iload 6, 2) := by decide +kernel
theorem dX10_copy_149 : decode cX10_copy 149 = .ok (.iadd, 1) := by decide +kernel
theorem dX10_copy_150 : decode cX10_copy 150 = .ok (.laload, 1) := by decide +kernel
theorem dX10_copy_151 : decode cX10_copy 151 = .ok (.lastore, 1) := by decide +kernel
theorem dX10_copy_152 : decode cX10_copy 152 = .ok (.iinc 6 1, 3) := by decide +kernel
theorem dX10_copy_155 : decode cX10_copy 155 = .ok (.goto (-31), 3) := by decide +kernel
theorem dX10_copy_158 : decode cX10_copy 158 = .ok (.iconst 0, 1) := by decide +kernel
theorem dX10_copy_159 : decode cX10_copy 159 = .ok (.istore 6, 2) := by decide +kernel
theorem dX10_copy_161 : decode cX10_copy 161 = .ok (.iload 6, 2) := by decide +kernel
theorem dX10_copy_163 : decode cX10_copy 163 = .ok (.iload 5, 2) := by decide +kernel
theorem dX10_copy_165 : decode cX10_copy 165 = .ok (.if_icmp .ge 31, 3) := by decide +kernel
theorem dX10_copy_168 : decode cX10_copy 168 = .ok (.aload_n 0, 1) := by decide +kernel
theorem dX10_copy_169 : decode cX10_copy 169 = .ok (.getfield 84, 3) := by decide +kernel
theorem dX10_copy_172 : decode cX10_copy 172 = .ok (.bipush 60, 2) := by decide +kernel
theorem dX10_copy_174 : decode cX10_copy 174 = .ok (.iload_n 3, 1) := by decide +kernel
theorem dX10_copy_175 : decode cX10_copy 175 = .ok (.imul, 1) := by decide +kernel
theorem dX10_copy_176 : decode cX10_copy 176 = .ok (.iload 4, 2) := by decide +kernel
theorem dX10_copy_178 : decode cX10_copy 178 = .ok (.iadd, 1) := by decide +kernel
theorem dX10_copy_179 : decode cX10_copy 179 = .ok (.iload 6, 2) := by decide +kernel
theorem dX10_copy_181 : decode cX10_copy 181 = .ok (.iadd, 1) := by decide +kernel
theorem dX10_copy_182 : decode cX10_copy 182 = .ok (.aload_n 0, 1) := by decide +kernel
theorem dX10_copy_183 : decode cX10_copy 183 = .ok (.getfield 88, 3) := by decide +kernel
theorem dX10_copy_186 : decode cX10_copy 186 = .ok (.iload 6, 2) := by decide +kernel
theorem dX10_copy_188 : decode cX10_copy 188 = .ok (.laload, 1) := by decide +kernel
theorem dX10_copy_189 : decode cX10_copy 189 = .ok (.lastore, 1) := by decide +kernel
theorem dX10_copy_190 : decode cX10_copy 190 = .ok (.iinc 6 1, 3) := by decide +kernel
theorem dX10_copy_193 : decode cX10_copy 193 = .ok (.goto (-32), 3) := by decide +kernel
theorem dX10_copy_196 : decode cX10_copy 196 = .ok (.iload 5, 2) := by decide +kernel
theorem dX10_copy_198 : decode cX10_copy 198 = .ok (.ireturn, 1) := by decide +kernel
theorem dX10_wrongShelf_0 : decode cX10_wrongShelf 0 = .ok (.iload_n 1, 1) := by decide +kernel
theorem dX10_wrongShelf_1 : decode cX10_wrongShelf 1 = .ok (.bipush 8, 2) := by decide +kernel
theorem dX10_wrongShelf_3 : decode cX10_wrongShelf 3 = .ok (.invokestatic 119, 3) := by decide +kernel
theorem dX10_wrongShelf_6 : decode cX10_wrongShelf 6 = .ok (.ifCond .ne 7, 3) := by decide +kernel
theorem dX10_wrongShelf_9 : decode cX10_wrongShelf 9 = .ok (.iconst (-1), 1) := by decide +kernel
theorem dX10_wrongShelf_10 : decode cX10_wrongShelf 10 = .ok (.goto 33, 3) := by decide +kernel
theorem dX10_wrongShelf_13 : decode cX10_wrongShelf 13 = .ok (.aload_n 0, 1) := by decide +kernel
theorem dX10_wrongShelf_14 : decode cX10_wrongShelf 14 = .ok (.getfield 69, 3) := by decide +kernel
theorem dX10_wrongShelf_17 : decode cX10_wrongShelf 17 = .ok (.iload_n 1, 1) := by decide +kernel
theorem dX10_wrongShelf_18 : decode cX10_wrongShelf 18 = .ok (.iaload, 1) := by decide +kernel
theorem dX10_wrongShelf_19 : decode cX10_wrongShelf 19 = .ok (.ifCond .ne 8, 3) := by decide +kernel
theorem dX10_wrongShelf_22 : decode cX10_wrongShelf 22 = .ok (.bipush (-11), 2) := by decide +kernel
theorem dX10_wrongShelf_24 : decode cX10_wrongShelf 24 = .ok (.goto 19, 3) := by decide +kernel
theorem dX10_wrongShelf_27 : decode cX10_wrongShelf 27 = .ok (.aload_n 0, 1) := by decide +kernel
theorem dX10_wrongShelf_28 : decode cX10_wrongShelf 28 = .ok (.getfield 69, 3) := by decide +kernel
theorem dX10_wrongShelf_31 : decode cX10_wrongShelf 31 = .ok (.iload_n 1, 1) := by decide +kernel
theorem dX10_wrongShelf_32 : decode cX10_wrongShelf 32 = .ok (.iaload, 1) := by decide +kernel
theorem dX10_wrongShelf_33 : decode cX10_wrongShelf 33 = .ok (.iconst 1, 1) := by decide +kernel
theorem dX10_wrongShelf_34 : decode cX10_wrongShelf 34 = .ok (.if_icmp .eq 8, 3) := by decide +kernel
theorem dX10_wrongShelf_37 : decode cX10_wrongShelf 37 = .ok (.bipush (-12), 2) := by decide +kernel
theorem dX10_wrongShelf_39 : decode cX10_wrongShelf 39 = .ok (.goto 4, 3) := by decide +kernel
theorem dX10_wrongShelf_42 : decode cX10_wrongShelf 42 = .ok (.iconst 0, 1) := by decide +kernel
theorem dX10_wrongShelf_43 : decode cX10_wrongShelf 43 = .ok (.ireturn, 1) := by decide +kernel
theorem dX10_weight_0 : decode cX10_weight 0 = .ok (.aload_n 0, 1) := by decide +kernel
theorem dX10_weight_1 : decode cX10_weight 1 = .ok (.iload_n 1, 1) := by decide +kernel
theorem dX10_weight_2 : decode cX10_weight 2 = .ok (.invokevirtual 226, 3) := by decide +kernel
theorem dX10_weight_5 : decode cX10_weight 5 = .ok (.istore_n 2, 1) := by decide +kernel
theorem dX10_weight_6 : decode cX10_weight 6 = .ok (.iload_n 2, 1) := by decide +kernel
theorem dX10_weight_7 : decode cX10_weight 7 = .ok (.ifCond .eq 5, 3) := by decide +kernel
theorem dX10_weight_10 : decode cX10_weight 10 = .ok (.iload_n 2, 1) := by decide +kernel
theorem dX10_weight_11 : decode cX10_weight 11 = .ok (.ireturn, 1) := by decide +kernel
theorem dX10_weight_12 : decode cX10_weight 12 = .ok (.aload_n 0, 1) := by decide +kernel
theorem dX10_weight_13 : decode cX10_weight 13 = .ok (.getfield 78, 3) := by decide +kernel
theorem dX10_weight_16 : decode cX10_weight 16 = .ok (.iload_n 1, 1) := by decide +kernel
theorem dX10_weight_17 : decode cX10_weight 17 = .ok (.iaload, 1) := by decide +kernel
theorem dX10_weight_18 : decode cX10_weight 18 = .ok (.bipush 10, 2) := by decide +kernel
theorem dX10_weight_20 : decode cX10_weight 20 = .ok (.iadd, 1) := by decide +kernel
theorem dX10_weight_21 : decode cX10_weight 21 = .ok (.istore_n 3, 1) := by decide +kernel
theorem dX10_weight_22 : decode cX10_weight 22 = .ok (.aload_n 0, 1) := by decide +kernel
theorem dX10_weight_23 : decode cX10_weight 23 = .ok (.getfield 75, 3) := by decide +kernel
theorem dX10_weight_26 : decode cX10_weight 26 = .ok (.iload_n 1, 1) := by decide +kernel
theorem dX10_weight_27 : decode cX10_weight 27 = .ok (.iaload, 1) := by decide +kernel
theorem dX10_weight_28 : decode cX10_weight 28 = .ok (.tableswitch 42 0 2 #[28, 30, 35], 28) := by decide +kernel
theorem dX10_weight_56 : decode cX10_weight 56 = .ok (.iload_n 3, 1) := by decide +kernel
theorem dX10_weight_57 : decode cX10_weight 57 = .ok (.ireturn, 1) := by decide +kernel
theorem dX10_weight_58 : decode cX10_weight 58 = .ok (.iload_n 3, 1) := by decide +kernel
theorem dX10_weight_59 : decode cX10_weight 59 = .ok (.bipush 100, 2) := by decide +kernel
theorem dX10_weight_61 : decode cX10_weight 61 = .ok (.iadd, 1) := by decide +kernel
theorem dX10_weight_62 : decode cX10_weight 62 = .ok (.ireturn, 1) := by decide +kernel
theorem dX10_weight_63 : decode cX10_weight 63 = .ok (.iconst 2, 1) := by decide +kernel
theorem dX10_weight_64 : decode cX10_weight 64 = .ok (.iload_n 3, 1) := by decide +kernel
theorem dX10_weight_65 : decode cX10_weight 65 = .ok (.bipush 100, 2) := by decide +kernel
theorem dX10_weight_67 : decode cX10_weight 67 = .ok (.iadd, 1) := by decide +kernel
theorem dX10_weight_68 : decode cX10_weight 68 = .ok (.imul, 1) := by decide +kernel
theorem dX10_weight_69 : decode cX10_weight 69 = .ok (.ireturn, 1) := by decide +kernel
theorem dX10_weight_70 : decode cX10_weight 70 = .ok (.iload_n 3, 1) := by decide +kernel
theorem dX10_weight_71 : decode cX10_weight 71 = .ok (.sipush 500, 3) := by decide +kernel
theorem dX10_weight_74 : decode cX10_weight 74 = .ok (.iadd, 1) := by decide +kernel
theorem dX10_weight_75 : decode cX10_weight 75 = .ok (.aload_n 0, 1) := by decide +kernel
theorem dX10_weight_76 : decode cX10_weight 76 = .ok (.getfield 81, 3) := by decide +kernel
theorem dX10_weight_79 : decode cX10_weight 79 = .ok (.iload_n 1, 1) := by decide +kernel
theorem dX10_weight_80 : decode cX10_weight 80 = .ok (.iaload, 1) := by decide +kernel
theorem dX10_weight_81 : decode cX10_weight 81 = .ok (.iadd, 1) := by decide +kernel
theorem dX10_weight_82 : decode cX10_weight 82 = .ok (.ireturn, 1) := by decide +kernel
theorem dX10_toss_0 : decode cX10_toss 0 = .ok (.aload_n 0, 1) := by decide +kernel
theorem dX10_toss_1 : decode cX10_toss 1 = .ok (.iload_n 1, 1) := by decide +kernel
theorem dX10_toss_2 : decode cX10_toss 2 = .ok (.invokevirtual 226, 3) := by decide +kernel
theorem dX10_toss_5 : decode cX10_toss 5 = .ok (.istore_n 2, 1) := by decide +kernel
theorem dX10_toss_6 : decode cX10_toss 6 = .ok (.iload_n 2, 1) := by decide +kernel
theorem dX10_toss_7 : decode cX10_toss 7 = .ok (.ifCond .eq 7, 3) := by decide +kernel
theorem dX10_toss_10 : decode cX10_toss 10 = .ok (.iload_n 2, 1) := by decide +kernel
theorem dX10_toss_11 : decode cX10_toss 11 = .ok (.goto 23, 3) := by decide +kernel
theorem dX10_toss_14 : decode cX10_toss 14 = .ok (.aload_n 0, 1) := by decide +kernel
theorem dX10_toss_15 : decode cX10_toss 15 = .ok (.getfield 75, 3) := by decide +kernel
theorem dX10_toss_18 : decode cX10_toss 18 = .ok (.iload_n 1, 1) := by decide +kernel
theorem dX10_toss_19 : decode cX10_toss 19 = .ok (.iaload, 1) := by decide +kernel
theorem dX10_toss_20 : decode cX10_toss 20 = .ok (.ifCond .ne 8, 3) := by decide +kernel
theorem dX10_toss_23 : decode cX10_toss 23 = .ok (.bipush (-15), 2) := by decide +kernel
theorem dX10_toss_25 : decode cX10_toss 25 = .ok (.goto 9, 3) := by decide +kernel
theorem dX10_toss_28 : decode cX10_toss 28 = .ok (.aload_n 0, 1) := by decide +kernel
theorem dX10_toss_29 : decode cX10_toss 29 = .ok (.getfield 78, 3) := by decide +kernel
theorem dX10_toss_32 : decode cX10_toss 32 = .ok (.iload_n 1, 1) := by decide +kernel
theorem dX10_toss_33 : decode cX10_toss 33 = .ok (.iaload, 1) := by decide +kernel
theorem dX10_toss_34 : decode cX10_toss 34 = .ok (.ireturn, 1) := by decide +kernel
theorem dJ6_bitCount_0f7a4_0 : decode cJ6_bitCount_0f7a4 0 = .ok (.iload_n 0, 1) := by decide +kernel
theorem dJ6_bitCount_0f7a4_1 : decode cJ6_bitCount_0f7a4 1 = .ok (.iload_n 0, 1) := by decide +kernel
theorem dJ6_bitCount_0f7a4_2 : decode cJ6_bitCount_0f7a4 2 = .ok (.iconst 1, 1) := by decide +kernel
theorem dJ6_bitCount_0f7a4_3 : decode cJ6_bitCount_0f7a4 3 = .ok (.iushr, 1) := by decide +kernel
theorem dJ6_bitCount_0f7a4_4 : decode cJ6_bitCount_0f7a4 4 = .ok (.ldc_w 265, 3) := by decide +kernel
theorem dJ6_bitCount_0f7a4_7 : decode cJ6_bitCount_0f7a4 7 = .ok (.iand, 1) := by decide +kernel
theorem dJ6_bitCount_0f7a4_8 : decode cJ6_bitCount_0f7a4 8 = .ok (.isub, 1) := by decide +kernel
theorem dJ6_bitCount_0f7a4_9 : decode cJ6_bitCount_0f7a4 9 = .ok (.istore_n 0, 1) := by decide +kernel
theorem dJ6_bitCount_0f7a4_10 : decode cJ6_bitCount_0f7a4 10 = .ok (.iload_n 0, 1) := by decide +kernel
theorem dJ6_bitCount_0f7a4_11 : decode cJ6_bitCount_0f7a4 11 = .ok (.ldc_w 266, 3) := by decide +kernel
theorem dJ6_bitCount_0f7a4_14 : decode cJ6_bitCount_0f7a4 14 = .ok (.iand, 1) := by decide +kernel
theorem dJ6_bitCount_0f7a4_15 : decode cJ6_bitCount_0f7a4 15 = .ok (.iload_n 0, 1) := by decide +kernel
theorem dJ6_bitCount_0f7a4_16 : decode cJ6_bitCount_0f7a4 16 = .ok (.iconst 2, 1) := by decide +kernel
theorem dJ6_bitCount_0f7a4_17 : decode cJ6_bitCount_0f7a4 17 = .ok (.iushr, 1) := by decide +kernel
theorem dJ6_bitCount_0f7a4_18 : decode cJ6_bitCount_0f7a4 18 = .ok (.ldc_w 266, 3) := by decide +kernel
theorem dJ6_bitCount_0f7a4_21 : decode cJ6_bitCount_0f7a4 21 = .ok (.iand, 1) := by decide +kernel
theorem dJ6_bitCount_0f7a4_22 : decode cJ6_bitCount_0f7a4 22 = .ok (.iadd, 1) := by decide +kernel
theorem dJ6_bitCount_0f7a4_23 : decode cJ6_bitCount_0f7a4 23 = .ok (.istore_n 0, 1) := by decide +kernel
theorem dJ6_bitCount_0f7a4_24 : decode cJ6_bitCount_0f7a4 24 = .ok (.iload_n 0, 1) := by decide +kernel
theorem dJ6_bitCount_0f7a4_25 : decode cJ6_bitCount_0f7a4 25 = .ok (.iload_n 0, 1) := by decide +kernel
theorem dJ6_bitCount_0f7a4_26 : decode cJ6_bitCount_0f7a4 26 = .ok (.iconst 4, 1) := by decide +kernel
theorem dJ6_bitCount_0f7a4_27 : decode cJ6_bitCount_0f7a4 27 = .ok (.iushr, 1) := by decide +kernel
theorem dJ6_bitCount_0f7a4_28 : decode cJ6_bitCount_0f7a4 28 = .ok (.iadd, 1) := by decide +kernel
theorem dJ6_bitCount_0f7a4_29 : decode cJ6_bitCount_0f7a4 29 = .ok (.ldc_w 267, 3) := by decide +kernel
theorem dJ6_bitCount_0f7a4_32 : decode cJ6_bitCount_0f7a4 32 = .ok (.iand, 1) := by decide +kernel
theorem dJ6_bitCount_0f7a4_33 : decode cJ6_bitCount_0f7a4 33 = .ok (.istore_n 0, 1) := by decide +kernel
theorem dJ6_bitCount_0f7a4_34 : decode cJ6_bitCount_0f7a4 34 = .ok (.iload_n 0, 1) := by decide +kernel
theorem dJ6_bitCount_0f7a4_35 : decode cJ6_bitCount_0f7a4 35 = .ok (.iload_n 0, 1) := by decide +kernel
theorem dJ6_bitCount_0f7a4_36 : decode cJ6_bitCount_0f7a4 36 = .ok (.bipush 8, 2) := by decide +kernel
theorem dJ6_bitCount_0f7a4_38 : decode cJ6_bitCount_0f7a4 38 = .ok (.iushr, 1) := by decide +kernel
theorem dJ6_bitCount_0f7a4_39 : decode cJ6_bitCount_0f7a4 39 = .ok (.iadd, 1) := by decide +kernel
theorem dJ6_bitCount_0f7a4_40 : decode cJ6_bitCount_0f7a4 40 = .ok (.istore_n 0, 1) := by decide +kernel
theorem dJ6_bitCount_0f7a4_41 : decode cJ6_bitCount_0f7a4 41 = .ok (.iload_n 0, 1) := by decide +kernel
theorem dJ6_bitCount_0f7a4_42 : decode cJ6_bitCount_0f7a4 42 = .ok (.iload_n 0, 1) := by decide +kernel
theorem dJ6_bitCount_0f7a4_43 : decode cJ6_bitCount_0f7a4 43 = .ok (.bipush 16, 2) := by decide +kernel
theorem dJ6_bitCount_0f7a4_45 : decode cJ6_bitCount_0f7a4 45 = .ok (.iushr, 1) := by decide +kernel
theorem dJ6_bitCount_0f7a4_46 : decode cJ6_bitCount_0f7a4 46 = .ok (.iadd, 1) := by decide +kernel
theorem dJ6_bitCount_0f7a4_47 : decode cJ6_bitCount_0f7a4 47 = .ok (.istore_n 0, 1) := by decide +kernel
theorem dJ6_bitCount_0f7a4_48 : decode cJ6_bitCount_0f7a4 48 = .ok (.iload_n 0, 1) := by decide +kernel
theorem dJ6_bitCount_0f7a4_49 : decode cJ6_bitCount_0f7a4 49 = .ok (.bipush 63, 2) := by decide +kernel
theorem dJ6_bitCount_0f7a4_51 : decode cJ6_bitCount_0f7a4 51 = .ok (.iand, 1) := by decide +kernel
theorem dJ6_bitCount_0f7a4_52 : decode cJ6_bitCount_0f7a4 52 = .ok (.ireturn, 1) := by decide +kernel
theorem dJ9_floorMod_7cf53_0 : decode cJ9_floorMod_7cf53 0 = .ok (.iload_n 0, 1) := by decide +kernel
theorem dJ9_floorMod_7cf53_1 : decode cJ9_floorMod_7cf53 1 = .ok (.iload_n 1, 1) := by decide +kernel
theorem dJ9_floorMod_7cf53_2 : decode cJ9_floorMod_7cf53 2 = .ok (.irem, 1) := by decide +kernel
theorem dJ9_floorMod_7cf53_3 : decode cJ9_floorMod_7cf53 3 = .ok (.istore_n 2, 1) := by decide +kernel
theorem dJ9_floorMod_7cf53_4 : decode cJ9_floorMod_7cf53 4 = .ok (.iload_n 0, 1) := by decide +kernel
theorem dJ9_floorMod_7cf53_5 : decode cJ9_floorMod_7cf53 5 = .ok (.iload_n 1, 1) := by decide +kernel
theorem dJ9_floorMod_7cf53_6 : decode cJ9_floorMod_7cf53 6 = .ok (.ixor, 1) := by decide +kernel
theorem dJ9_floorMod_7cf53_7 : decode cJ9_floorMod_7cf53 7 = .ok (.ifCond .ge 11, 3) := by decide +kernel
theorem dJ9_floorMod_7cf53_10 : decode cJ9_floorMod_7cf53 10 = .ok (.iload_n 2, 1) := by decide +kernel
theorem dJ9_floorMod_7cf53_11 : decode cJ9_floorMod_7cf53 11 = .ok (.ifCond .eq 7, 3) := by decide +kernel
theorem dJ9_floorMod_7cf53_14 : decode cJ9_floorMod_7cf53 14 = .ok (.iload_n 2, 1) := by decide +kernel
theorem dJ9_floorMod_7cf53_15 : decode cJ9_floorMod_7cf53 15 = .ok (.iload_n 1, 1) := by decide +kernel
theorem dJ9_floorMod_7cf53_16 : decode cJ9_floorMod_7cf53 16 = .ok (.iadd, 1) := by decide +kernel
theorem dJ9_floorMod_7cf53_17 : decode cJ9_floorMod_7cf53 17 = .ok (.ireturn, 1) := by decide +kernel
theorem dJ9_floorMod_7cf53_18 : decode cJ9_floorMod_7cf53 18 = .ok (.iload_n 2, 1) := by decide +kernel
theorem dJ9_floorMod_7cf53_19 : decode cJ9_floorMod_7cf53 19 = .ok (.ireturn, 1) := by decide +kernel
theorem dJ9_max_7cf53_0 : decode cJ9_max_7cf53 0 = .ok (.iload_n 0, 1) := by decide +kernel
theorem dJ9_max_7cf53_1 : decode cJ9_max_7cf53 1 = .ok (.iload_n 1, 1) := by decide +kernel
theorem dJ9_max_7cf53_2 : decode cJ9_max_7cf53 2 = .ok (.if_icmp .lt 7, 3) := by decide +kernel
theorem dJ9_max_7cf53_5 : decode cJ9_max_7cf53 5 = .ok (.iload_n 0, 1) := by decide +kernel
theorem dJ9_max_7cf53_6 : decode cJ9_max_7cf53 6 = .ok (.goto 4, 3) := by decide +kernel
theorem dJ9_max_7cf53_9 : decode cJ9_max_7cf53 9 = .ok (.iload_n 1, 1) := by decide +kernel
theorem dJ9_max_7cf53_10 : decode cJ9_max_7cf53 10 = .ok (.ireturn, 1) := by decide +kernel
theorem dJ9_min_7cf53_0 : decode cJ9_min_7cf53 0 = .ok (.iload_n 0, 1) := by decide +kernel
theorem dJ9_min_7cf53_1 : decode cJ9_min_7cf53 1 = .ok (.iload_n 1, 1) := by decide +kernel
theorem dJ9_min_7cf53_2 : decode cJ9_min_7cf53 2 = .ok (.if_icmp .gt 7, 3) := by decide +kernel
theorem dJ9_min_7cf53_5 : decode cJ9_min_7cf53 5 = .ok (.iload_n 0, 1) := by decide +kernel
theorem dJ9_min_7cf53_6 : decode cJ9_min_7cf53 6 = .ok (.goto 4, 3) := by decide +kernel
theorem dJ9_min_7cf53_9 : decode cJ9_min_7cf53 9 = .ok (.iload_n 1, 1) := by decide +kernel
theorem dJ9_min_7cf53_10 : decode cJ9_min_7cf53 10 = .ok (.ireturn, 1) := by decide +kernel
theorem dJ7_fill_d0a16_0 : decode cJ7_fill_d0a16 0 = .ok (.iconst 0, 1) := by decide +kernel
theorem dJ7_fill_d0a16_1 : decode cJ7_fill_d0a16 1 = .ok (.istore_n 3, 1) := by decide +kernel
theorem dJ7_fill_d0a16_2 : decode cJ7_fill_d0a16 2 = .ok (.aload_n 0, 1) := by decide +kernel
theorem dJ7_fill_d0a16_3 : decode cJ7_fill_d0a16 3 = .ok (.arraylength, 1) := by decide +kernel
theorem dJ7_fill_d0a16_4 : decode cJ7_fill_d0a16 4 = .ok (.istore 4, 2) := by decide +kernel
theorem dJ7_fill_d0a16_6 : decode cJ7_fill_d0a16 6 = .ok (.iload_n 3, 1) := by decide +kernel
theorem dJ7_fill_d0a16_7 : decode cJ7_fill_d0a16 7 = .ok (.iload 4, 2) := by decide +kernel
theorem dJ7_fill_d0a16_9 : decode cJ7_fill_d0a16 9 = .ok (.if_icmp .ge 13, 3) := by decide +kernel
theorem dJ7_fill_d0a16_12 : decode cJ7_fill_d0a16 12 = .ok (.aload_n 0, 1) := by decide +kernel
theorem dJ7_fill_d0a16_13 : decode cJ7_fill_d0a16 13 = .ok (.iload_n 3, 1) := by decide +kernel
theorem dJ7_fill_d0a16_14 : decode cJ7_fill_d0a16 14 = .ok (.lload_n 1, 1) := by decide +kernel
theorem dJ7_fill_d0a16_15 : decode cJ7_fill_d0a16 15 = .ok (.lastore, 1) := by decide +kernel
theorem dJ7_fill_d0a16_16 : decode cJ7_fill_d0a16 16 = .ok (.iinc 3 1, 3) := by decide +kernel
theorem dJ7_fill_d0a16_19 : decode cJ7_fill_d0a16 19 = .ok (.goto (-13), 3) := by decide +kernel
theorem dJ7_fill_d0a16_22 : decode cJ7_fill_d0a16 22 = .ok (.return_, 1) := by decide +kernel
theorem dJ7_fill_53178_0 : decode cJ7_fill_53178 0 = .ok (.iconst 0, 1) := by decide +kernel
theorem dJ7_fill_53178_1 : decode cJ7_fill_53178 1 = .ok (.istore_n 2, 1) := by decide +kernel
theorem dJ7_fill_53178_2 : decode cJ7_fill_53178 2 = .ok (.aload_n 0, 1) := by decide +kernel
theorem dJ7_fill_53178_3 : decode cJ7_fill_53178 3 = .ok (.arraylength, 1) := by decide +kernel
theorem dJ7_fill_53178_4 : decode cJ7_fill_53178 4 = .ok (.istore_n 3, 1) := by decide +kernel
theorem dJ7_fill_53178_5 : decode cJ7_fill_53178 5 = .ok (.iload_n 2, 1) := by decide +kernel
theorem dJ7_fill_53178_6 : decode cJ7_fill_53178 6 = .ok (.iload_n 3, 1) := by decide +kernel
theorem dJ7_fill_53178_7 : decode cJ7_fill_53178 7 = .ok (.if_icmp .ge 13, 3) := by decide +kernel
theorem dJ7_fill_53178_10 : decode cJ7_fill_53178 10 = .ok (.aload_n 0, 1) := by decide +kernel
theorem dJ7_fill_53178_11 : decode cJ7_fill_53178 11 = .ok (.iload_n 2, 1) := by decide +kernel
theorem dJ7_fill_53178_12 : decode cJ7_fill_53178 12 = .ok (.iload_n 1, 1) := by decide +kernel
theorem dJ7_fill_53178_13 : decode cJ7_fill_53178 13 = .ok (.iastore, 1) := by decide +kernel
theorem dJ7_fill_53178_14 : decode cJ7_fill_53178 14 = .ok (.iinc 2 1, 3) := by decide +kernel
theorem dJ7_fill_53178_17 : decode cJ7_fill_53178 17 = .ok (.goto (-12), 3) := by decide +kernel
theorem dJ7_fill_53178_20 : decode cJ7_fill_53178 20 = .ok (.return_, 1) := by decide +kernel
end
section
/-! The pure picture of the machine. An abstract heap numbers cells 0, 1, 2, ..: 0 is the script, 1 to 3 the rows ORDERS_OF_TWO, .._THREE, .._FOUR, 4 and on what the law's run makes, in its order. hk_S says of a frame of a method over such a heap: the machine comes to an end that Q allows. -/
abbrev hk_G : Type := va_G × (Nat → ClassId) × (Nat → Nat) × Nat
def hk_r (G : hk_G) (a : Nat) : Nat := if a < 4 then G.2.2.1 a else G.2.2.2 + (a - 4)
def hk_cv (G : hk_G) (v : Value) : Value := match v with
  | .ref a => .ref (hk_r G a)
  | v => v
theorem hk_cat (G : hk_G) (v : Value) : (hk_cv G v).category = v.category := by cases v <;> rfl
abbrev hk_AC : Type := (Nat × vp_A) ⊕ (Nat × List Value)
abbrev hk_H : Type := Nat × (Nat → Option hk_AC)
def hk_ca (G : hk_G) (x : vp_A) : vp_A := match x with
  | (n, .inr (.inr (.inr (.inr f)))) => (n, .inr (.inr (.inr (.inr (fun j => (f j).map (hk_r G))))))
  | y => y
def hk_ce (G : hk_G) (c : hk_AC) : va_E := match c with
  | .inl a => .inl (G.2.1 a.1, hk_ca G a.2)
  | .inr o => .inr (o.1, o.2.map (hk_cv G))
abbrev hk_cl : List vw_C := [(RX0, TX0, 6), (RX1, TX1, 9), (RX2, TX2, 5), (RX3, TX3, 4), (RX4, TX4, 5), (RX5, TX5, 3), (RX6, TX6, 5), (RX7, TX7, 7), (RX8, TX8, 6), (RX9, TX9, 9), (RX10, TX10, 32)]
def hk_up (h : Nat → Option hk_AC) (a : Nat) (c : hk_AC) : Nat → Option hk_AC := fun j => if j = a then some c else h j
def hk_set (h : hk_H) (a : Nat) (c : hk_AC) : hk_H := (h.1, hk_up h.2 a c)
def hk_new (h : hk_H) (c : hk_AC) : hk_H := (h.1 + 1, hk_up h.2 h.1 c)
def hk_R (G : hk_G) (H : Heap) (h : hk_H) : Prop := H.size = G.2.2.2 + (h.1 - 4) ∧ 4 ≤ h.1 ∧ (∀ a, a < 4 → G.2.2.1 a < G.2.2.2) ∧ ∀ (a : Nat) (c : hk_AC), h.2 a = some c → va_at G.1 hk_cl (hk_r G a, hk_ce G c) H
theorem hk_r_ne {G : hk_G} (hs : ∀ a, a < 4 → G.2.2.1 a < G.2.2.2) {a b : Nat} (ha : 4 ≤ a) (h : b ≠ a) : hk_r G b ≠ hk_r G a := by
  unfold hk_r
  rw [if_neg (by omega : ¬ a < 4)]
  split
  · rename_i hb
    have := hs b hb
    omega
  · omega
theorem hk_R.put {G : hk_G} {H H' : Heap} {h : hk_H} (hR : hk_R G H h) {a : Nat} {c : hk_AC} (ha : 4 ≤ a) (hc : va_at G.1 hk_cl (hk_r G a, hk_ce G c) H') (z : H'.size = H.size) (o : ∀ q, q ≠ hk_r G a → H'[q]? = H[q]?) : hk_R G H' (hk_set h a c) := by
  obtain ⟨h1, h2, h3, h4⟩ := hR
  refine ⟨z.trans h1, h2, h3, fun b c' hb => ?_⟩
  have hb' : (if b = a then some c else h.2 b) = some c' := hb
  by_cases e : b = a
  · rw [if_pos e] at hb'
    cases hb'
    rw [e]
    exact hc
  · rw [if_neg e] at hb'
    exact (h4 b c' hb').kept (o _ (hk_r_ne h3 ha e))
theorem hk_R.push {G : hk_G} {H H' : Heap} {h : hk_H} (hR : hk_R G H h) {c : hk_AC} (hc : va_at G.1 hk_cl (H.size, hk_ce G c) H') (z : H'.size = H.size + 1) (o : ∀ q, q < H.size → H'[q]? = H[q]?) : hk_R G H' (hk_new h c) := by
  obtain ⟨h1, h2, h3, h4⟩ := hR
  have hr : hk_r G h.1 = H.size := by unfold hk_r; rw [if_neg (by omega : ¬ h.1 < 4)]; omega
  refine ⟨?_, ?_, h3, fun b c' hb => ?_⟩
  · show H'.size = G.2.2.2 + (h.1 + 1 - 4)
    omega
  · show 4 ≤ h.1 + 1
    omega
  · have hb' : (if b = h.1 then some c else h.2 b) = some c' := hb
    by_cases e : b = h.1
    · rw [if_pos e] at hb'
      cases hb'
      rw [e, hr]
      exact hc
    · rw [if_neg e] at hb'
      have h5 := h4 b c' hb'
      exact h5.kept (o _ h5.lt)
theorem hk_R.top {G : hk_G} {H : Heap} {h : hk_H} (hR : hk_R G H h) : hk_r G h.1 = H.size := by
  obtain ⟨h1, h2, -, -⟩ := hR
  unfold hk_r; rw [if_neg (by omega : ¬ h.1 < 4)]; omega
theorem hk_R.own {G : hk_G} {H : Heap} {h : hk_H} (hR : hk_R G H h) {a : Nat} (ha : 4 ≤ a) : G.2.2.2 ≤ hk_r G a := by
  unfold hk_r; rw [if_neg (by omega : ¬ a < 4)]; omega
/-! locals -/
def hk_L (G : hk_G) (ls : Array Slot) (n : Nat) (L : List (Option Value)) : Prop := ls.size = n ∧ lv_wf ls ∧ ∀ (k : Nat) (v : Value), L[k]? = some (some v) → ls[k]? = some (.val (hk_cv G v))
def hk_as (G : hk_G) (L : List (Option Value)) : List (Nat × Value) := (List.range L.length).filterMap (fun k => match L[k]? with
  | some (some v) => some (k, hk_cv G v)
  | _ => none)
theorem hk_as_mem {G : hk_G} {L : List (Option Value)} {k : Nat} {v : Value} (h : L[k]? = some (some v)) : (k, hk_cv G v) ∈ hk_as G L := by
  refine List.mem_filterMap.mpr ⟨k, List.mem_range.mpr (List.getElem?_eq_some_iff.mp h).1, ?_⟩
  rw [h]
theorem hk_as_of {G : hk_G} {L : List (Option Value)} {q : Nat × Value} (h : q ∈ hk_as G L) : ∃ v, L[q.1]? = some (some v) ∧ q.2 = hk_cv G v := by
  obtain ⟨k, -, hk⟩ := List.mem_filterMap.mp h
  split at hk
  · rename_i v hv
    cases hk
    exact ⟨v, hv, rfl⟩
  · cases hk
theorem hk_L.has {G : hk_G} {ls : Array Slot} {n : Nat} {L : List (Option Value)} (h : hk_L G ls n L) : lv_has ls n (hk_as G L) := by
  refine ⟨h.1, h.2.1, fun q hq => ?_⟩
  obtain ⟨v, h1, h2⟩ := hk_as_of hq
  rw [h2]
  exact h.2.2 q.1 v h1
def hk_kill (L : List (Option Value)) (i : Nat) : List (Option Value) := match i with
  | 0 => L
  | j + 1 => match L[j]? with
    | some (some w) => if w.category == 2 then L.set j none else L
    | _ => L
def hk_st1 (L : List (Option Value)) (i : Nat) (v : Value) : List (Option Value) := (hk_kill L i).set i (some v)
def hk_st2 (L : List (Option Value)) (i : Nat) (v : Value) : List (Option Value) := ((hk_kill L i).set i (some v)).set (i + 1) none
theorem hk_kill_of {L : List (Option Value)} {i k : Nat} {w : Value} (h : (hk_kill L i)[k]? = some (some w)) : L[k]? = some (some w) ∧ ¬ (k + 1 = i ∧ w.category = 2) := by
  cases i with
  | zero => exact ⟨h, fun q => by omega⟩
  | succ j =>
    unfold hk_kill at h
    dsimp only at h
    split at h
    · rename_i w0 hw0
      split at h
      · by_cases e : k = j
        · subst e
          rw [List.getElem?_set_self (List.getElem?_eq_some_iff.mp hw0).1] at h
          cases h
        · rw [List.getElem?_set_ne (Ne.symm e)] at h
          exact ⟨h, fun q => e (by omega)⟩
      · rename_i hc
        refine ⟨h, fun q => ?_⟩
        have e : k = j := by omega
        subst e
        rw [hw0] at h
        cases h
        exact hc (by simp [q.2])
    · rename_i hn
      refine ⟨h, fun q => ?_⟩
      have e : k = j := by omega
      subst e
      exact hn w h
theorem hk_L.store1 {G : hk_G} {ls : Array Slot} {n i : Nat} {L : List (Option Value)} {v : Value} (h : hk_L G ls n L) (hi : i < n) (hc : v.category = 1) : ∃ ls', storeLocals ls i (hk_cv G v) = some ls' ∧ hk_L G ls' n (hk_st1 L i v) := by
  obtain ⟨ls', e, h1, h2, h3⟩ := lv_store1 (v := hk_cv G v) h.has hi (by rw [hk_cat]; exact hc)
  refine ⟨ls', e, h1, h2, fun k w hw => ?_⟩
  unfold hk_st1 at hw
  by_cases e1 : k = i
  · subst e1
    by_cases hlen : k < (hk_kill L k).length
    · rw [List.getElem?_set_self hlen] at hw
      cases hw
      exact h3 _ List.mem_cons_self
    · have : ((hk_kill L k).set k (some v))[k]? = none := by simp; omega
      rw [this] at hw
      cases hw
  · rw [List.getElem?_set_ne (Ne.symm e1)] at hw
    obtain ⟨g1, g2⟩ := hk_kill_of hw
    refine h3 (k, hk_cv G w) (List.mem_cons_of_mem _ (List.mem_filter.mpr ⟨hk_as_mem g1, ?_⟩))
    simp only [Bool.and_eq_true, Bool.not_eq_true', beq_eq_false_iff_ne, ne_eq, Bool.and_eq_false_iff, hk_cat]
    refine ⟨e1, ?_⟩
    by_cases e2 : k + 1 = i
    · exact Or.inr fun q => g2 ⟨e2, q⟩
    · exact Or.inl e2
theorem hk_L.store2 {G : hk_G} {ls : Array Slot} {n i : Nat} {L : List (Option Value)} {v : Value} (h : hk_L G ls n L) (hi : i + 1 < n) (hc : v.category = 2) : ∃ ls', storeLocals ls i (hk_cv G v) = some ls' ∧ hk_L G ls' n (hk_st2 L i v) := by
  obtain ⟨ls', e, h1, h2, h3⟩ := lv_store2 (v := hk_cv G v) h.has hi (by rw [hk_cat]; exact hc)
  refine ⟨ls', e, h1, h2, fun k w hw => ?_⟩
  unfold hk_st2 at hw
  by_cases e0 : k = i + 1
  · subst e0
    by_cases hlen : i + 1 < ((hk_kill L i).set i (some v)).length
    · rw [List.getElem?_set_self hlen] at hw
      cases hw
    · have : (((hk_kill L i).set i (some v)).set (i + 1) none)[i + 1]? = none := by simp at hlen ⊢; omega
      rw [this] at hw
      cases hw
  · rw [List.getElem?_set_ne (Ne.symm e0)] at hw
    by_cases e1 : k = i
    · subst e1
      by_cases hlen : k < (hk_kill L k).length
      · rw [List.getElem?_set_self hlen] at hw
        cases hw
        exact h3 _ List.mem_cons_self
      · have : ((hk_kill L k).set k (some v))[k]? = none := by simp; omega
        rw [this] at hw
        cases hw
    · rw [List.getElem?_set_ne (Ne.symm e1)] at hw
      obtain ⟨g1, g2⟩ := hk_kill_of hw
      refine h3 (k, hk_cv G w) (List.mem_cons_of_mem _ (List.mem_filter.mpr ⟨hk_as_mem g1, ?_⟩))
      simp only [Bool.and_eq_true, Bool.not_eq_true', beq_eq_false_iff_ne, ne_eq, Bool.and_eq_false_iff, hk_cat]
      refine ⟨e1, e0, ?_⟩
      by_cases e2 : k + 1 = i
      · exact Or.inr fun q => g2 ⟨e2, q⟩
      · exact Or.inl e2
/-- fewer known locals -/
def hk_le (L' L : List (Option Value)) : Prop := ∀ (k : Nat) (v : Value), L'[k]? = some (some v) → L[k]? = some (some v)
theorem hk_L.le {G : hk_G} {ls : Array Slot} {n : Nat} {L L' : List (Option Value)} (h : hk_L G ls n L) (hl : hk_le L' L) : hk_L G ls n L' := ⟨h.1, h.2.1, fun k v hk => h.2.2 k v (hl k v hk)⟩
theorem hk_le_nil (L : List (Option Value)) : hk_le [] L := fun k v h => by simp at h
theorem hk_le_s {L' L : List (Option Value)} {x : Option Value} (h : hk_le L' L) : hk_le (x :: L') (x :: L) := fun k v hk => by
  cases k with
  | zero => exact hk
  | succ j => exact h j v hk
theorem hk_le_n {L' L : List (Option Value)} {x : Option Value} (h : hk_le L' L) : hk_le (none :: L') (x :: L) := fun k v hk => by
  cases k with
  | zero => cases hk
  | succ j => exact h j v hk
/-- the locals at a method's entry -/
def hk_ar : List Value → List (Option Value)
  | [] => []
  | v :: vs => if v.category == 2 then some v :: none :: hk_ar vs else some v :: hk_ar vs
def hk_en (vs : List Value) (n : Nat) : List (Option Value) := hk_ar vs ++ List.replicate (n - (hk_ar vs).length) none
theorem hk_ar_in {G : hk_G} (vs : List Value) : ∀ (i k : Nat) (v : Value), (hk_ar vs)[k]? = some (some v) → (i + k, hk_cv G v) ∈ lv_args i (vs.map (hk_cv G)) := by
  induction vs with
  | nil => intro i k v h; simp [hk_ar] at h
  | cons w ws ih =>
    intro i k v h
    unfold hk_ar at h
    rw [List.map_cons]
    unfold lv_args
    rw [hk_cat]
    by_cases c : w.category = 2
    · rw [if_pos (by simp [c])] at h
      rw [if_pos c]
      match k, h with
      | 0, h => cases h; exact List.mem_cons_self
      | 1, h => cases h
      | k + 2, h =>
        have := ih (i + 2) k v h
        rw [show i + (k + 2) = i + 2 + k by omega]
        exact List.mem_cons_of_mem _ this
    · rw [if_neg (by simp [c])] at h
      rw [if_neg c]
      match k, h with
      | 0, h => cases h; exact List.mem_cons_self
      | k + 1, h =>
        have := ih (i + 1) k v h
        rw [show i + (k + 1) = i + 1 + k by omega]
        exact List.mem_cons_of_mem _ this
theorem hk_ar_len {G : hk_G} (vs : List Value) : (lg_sl (vs.map (hk_cv G))).length = (hk_ar vs).length := by
  induction vs with
  | nil => rfl
  | cons w ws ih =>
    unfold lg_sl at ih ⊢
    rw [List.map_cons, List.flatMap_cons, List.length_append, ih, hk_cat, show hk_ar (w :: ws) = if w.category == 2 then some w :: none :: hk_ar ws else some w :: hk_ar ws from rfl]
    by_cases c : w.category = 2
    · rw [if_pos c, if_pos (by simp [c])]; simp; omega
    · rw [if_neg c, if_neg (by simp [c])]; simp; omega
theorem hk_entry {G : hk_G} (vs : List Value) {n : Nat} (h : (hk_ar vs).length ≤ n) : hk_L G ((lg_sl (vs.map (hk_cv G)) ++ List.replicate (n - (lg_sl (vs.map (hk_cv G))).length) Slot.unset).toArray) n (hk_en vs n) := by
  obtain ⟨h1, h2, h3⟩ := lv_entry (vs.map (hk_cv G)) (n := n) (by rw [hk_ar_len]; exact h)
  refine ⟨h1, h2, fun k v hk => ?_⟩
  unfold hk_en at hk
  by_cases hl : k < (hk_ar vs).length
  · rw [List.getElem?_append_left hl] at hk
    have := hk_ar_in (G := G) vs 0 k v hk
    rw [Nat.zero_add] at this
    exact h3 _ this
  · rw [List.getElem?_append_right (by omega)] at hk
    rw [List.getElem?_replicate] at hk
    split at hk <;> cases hk
end
section
/-! What holds at every frame, and stays: the classes, the statics that are read, the texts of throws, words of the tables. -/
def hk_A (G : hk_G) : Nat → Prop := fun q => G.2.2.2 ≤ q
def hk_tys (G : hk_G) : List (ClassId × FieldType) := [(G.2.1 0, .int), (G.2.1 1, .long), (G.2.1 2, .boolean), (G.2.1 3, .object RX5), (G.2.1 4, .object RX4)]
def hk_cast : List (String × String) := [("java/lang/IllegalStateException", "java/lang/IllegalStateException"), ("java/lang/IllegalArgumentException", "java/lang/IllegalArgumentException"), (RX3, RX5), (RX7, RX5), (RX2, RX5)]
def hk_decl : List MethodName := [⟨"HonestHouse$Table", "changeEnd", "(II)I"⟩, ⟨"HonestHouse$Table", "endAt", "(I)I"⟩, ⟨"java/lang/RuntimeException", "<init>", "()V"⟩, ⟨"java/lang/RuntimeException", "<init>", "(Ljava/lang/String;)V"⟩, ⟨"java/lang/Exception", "<init>", "()V"⟩, ⟨"java/lang/Exception", "<init>", "(Ljava/lang/String;)V"⟩, ⟨"java/lang/Throwable", "<init>", "()V"⟩, ⟨"java/lang/Throwable", "<init>", "(Ljava/lang/String;)V"⟩]
def hk_nest : List (Nat × String) := [(15, "ORDERS_OF_TWO"), (19, "ORDERS_OF_THREE"), (22, "ORDERS_OF_FOUR")]
def hk_strs : List (String × Nat × String) := [(RX2, 57, "a middle rule fails"), (RX3, 32, "a paid rule fails"), (RX9, 136, "no such rule, row or person"), (RX9, 147, "no such rule, row, person or wish"), (RX9, 184, "no such rule"), (RX9, 198, "no such rule, row, person or end"), (RX9, 213, "an end that does not come about"), (RX9, 226, "an end that does not come about, or a round below 0"), (RX9, 296, "no such shelf"), (RX9, 304, "no row, or no such place in it")]
def hk_sta : List (Nat × String) := [(1, "ORDERS_OF_TWO"), (2, "ORDERS_OF_THREE"), (3, "ORDERS_OF_FOUR")]
def hk_K (G : hk_G) (U : State) (H : Heap) : Prop := va_K G.1 hk_cl (hk_tys G) U ∧ vx_Zq Bundle.tN "UNASSIGNED_STACK" Bundle.steD (hk_A G) U H ∧ vx_Zq Bundle.tN "SUPPRESSED_SENTINEL" Bundle.listD (hk_A G) U H ∧ (∀ q ∈ hk_sta, va_Z RX9 q.2 "[I" (.ref (G.2.2.1 q.1)) (hk_A G) U H) ∧ (∀ q ∈ hk_strs, ∃ a, vk_R q.1 q.2.1 q.2.2 a U) ∧ (∀ q ∈ hk_cast, va_Nw (.castable q.1 q.2) U) ∧ (∀ x ∈ hk_decl, va_Nw (.declares x) U) ∧ (∀ q ∈ hk_nest, va_Nw (.fieldLinkNest RX1 q.1 RX9 q.2 "[I" RX9) U) ∧ va_AO RX5 U ∧ va_AO RX4 U ∧ va_Nc "java/lang/IllegalStateException" "java/lang/IllegalArgumentException" U
theorem hk_K.go {G : hk_G} {s U : State} {H0 H : Heap} (h : hk_K G s H0) (hW : s.WarmedH U.vm) (hq : ∀ q : Nat, q < H0.size → ¬ hk_A G q → H[q]? = H0[q]?) : hk_K G U H := by
  obtain ⟨h1, h2, h3, h4, h5, h6, h7, h8, h9, h10, h11⟩ := h
  have ha := hW.alike
  exact ⟨h1.moved ha, (h2.kept hq).moved ha, (h3.kept hq).moved ha, fun q hq' => ((h4 q hq').kept hq).moved ha, fun q hq' => (h5 q hq').imp fun a h => h.warm hW, fun q hq' => va_Nw.warmC hW (h6 q hq'), fun x hx => va_Nw.warmD hW (h7 x hx), fun q hq' => va_Nw.warmF hW (h8 q hq'), h9.moved ha, h10.moved ha, h11.moved ha⟩
abbrev hk_M : Type := MethodName × ByteArray × Nat × Option FieldType × List (Nat × Nat × Nat × Nat)
abbrev hk_O : Type := Option Value ⊕ String
def hk_ws : List Cond := lw_tbl.filter goodWord
def hk_Qc (G : hk_G) (Q : hk_O → hk_H → Prop) : Array Value → State → Outcome → State → Prop := fun _ st o t => ∃ (v : Option Value) (h' : hk_H), o = .returned (v.map (hk_cv G)) ∧ Q (.inl v) h' ∧ hk_R G t.heap h' ∧ va_F (hk_A G) st t
def hk_XC (G : hk_G) (Q : hk_O → hk_H → Prop) : String → State → State → Prop := fun E st t => ∃ h' : hk_H, Q (.inr E) h' ∧ hk_R G t.heap h' ∧ va_F (hk_A G) st t
def hk_Cx (G : hk_G) (M : hk_M) (d : Nat) (p : Program) (l : Launch) (R : Room) (s : State) (m : MethodId) (args : Array Value) (meth : Method) (c : Code) : Prop :=
  p.tables.exec = Jvm.exec ∧ c.code = M.2.1 ∧ meth.sig.returnType = M.2.2.2.1 ∧ c.maxLocals = M.2.2.1 ∧ s.vm.findClass M.1.cls = some m.cls ∧ (∀ w ∈ hk_ws, w.before args s = true) ∧ meth.locks = false ∧ meth.name = M.1.name ∧ c.exceptionTable.toList = tableOf M.2.2.2.2 ∧ hk_K G s s.heap ∧ l.stackTraces = false ∧ d + 8 ≤ R.frames ∧ 64 * d + 400 ≤ R.locals ∧ G.2.2.2 ≤ s.heap.size
/-- the frame of the method M at pc, locals L, stack st, heap h; d calls deep at most, cb cells and sb slots may be made: it comes to an end of which Q holds -/
def hk_S (G : hk_G) (M : hk_M) (d cb sb pc : Nat) (L : List (Option Value)) (st : List Value) (h : hk_H) (Q : hk_O → hk_H → Prop) : Prop :=
  ∀ (p : Program) (l : Launch) (e : Env) (R : Room) (s : State) (m : MethodId) (args : Array Value) (below : List Frame) (meth : Method) (c : Code) (H : Heap) (locs : List Loc) (cells slots mc ms : Nat) (ls : Array Slot),
    hk_Cx G M d p l R s m args meth c → va_S (hk_A G) s.heap H locs → hk_R G H h → hk_L G ls M.2.2.1 L → cells + cb ≤ mc ∧ slots + sb ≤ ms ∧ mc ≤ R.cells ∧ ms ≤ R.slots →
    W p l e R s m args below meth c H locs cells slots (vx_MQ below (hk_Qc G Q) (hk_XC G Q) args s mc ms (hk_A G)) (F0 m pc ls (st.map (hk_cv G)))
section HS
variable {G : hk_G} {M : hk_M} {d cb sb pc : Nat} {L L' : List (Option Value)} {st : List Value} {h : hk_H} {Q : hk_O → hk_H → Prop}
theorem hs_le (hl : hk_le L' L) (k : hk_S G M d cb sb pc L' st h Q) : hk_S G M d cb sb pc L st h Q := fun p l e R s m args below meth c H locs cells slots mc ms ls C hS hR hL hb => k p l e R s m args below meth c H locs cells slots mc ms ls C hS hR (hL.le hl) hb
theorem hs_post {Q' : hk_O → hk_H → Prop} (hq : ∀ o h', Q' o h' → Q o h') (k : hk_S G M d cb sb pc L st h Q') : hk_S G M d cb sb pc L st h Q := by
  intro p l e R s m args below meth c H locs cells slots mc ms ls C hS hR hL hb T hT X
  obtain ⟨t, a, o, b1, b2, b3⟩ := k p l e R s m args below meth c H locs cells slots mc ms ls C hS hR hL hb T hT X
  refine ⟨t, a, o, b1, b2, ?_⟩
  rcases b3 with ⟨⟨v, h', e1, e2, e3⟩, e4⟩ | ⟨q, e1, E, ce, LL, ⟨h', e2, e3⟩, e4⟩
  · exact Or.inl ⟨⟨v, h', e1, hq _ _ e2, e3⟩, e4⟩
  · exact Or.inr ⟨q, e1, E, ce, LL, ⟨h', hq _ _ e2, e3⟩, e4⟩
theorem hs_iconst {n : Int} {v : Int32} (hd : decode M.2.1 pc = .ok (.iconst n, 1)) (hv : Int32.ofInt n = v) (k : hk_S G M d cb sb (pc + 1) L (.int v :: st) h Q) : hk_S G M d cb sb pc L (st) h Q := by
  intro p l e R s m args below meth c H locs cells slots mc ms ls C hS hR hL hb
  exact lv_iconst C.1 C.2.1 hd hv (k p l e R s m args below meth c H locs cells slots mc ms ls C hS hR hL hb)
theorem hs_bipush {n : Int} {v : Int32} (hd : decode M.2.1 pc = .ok (.bipush n, 2)) (hv : (Int8.ofInt n).toInt32 = v) (k : hk_S G M d cb sb (pc + 2) L (.int v :: st) h Q) : hk_S G M d cb sb pc L (st) h Q := by
  intro p l e R s m args below meth c H locs cells slots mc ms ls C hS hR hL hb
  exact lv_bipush C.1 C.2.1 hd hv (k p l e R s m args below meth c H locs cells slots mc ms ls C hS hR hL hb)
theorem hs_sipush {n : Int} {v : Int32} (hd : decode M.2.1 pc = .ok (.sipush n, 3)) (hv : (Int16.ofInt n).toInt32 = v) (k : hk_S G M d cb sb (pc + 3) L (.int v :: st) h Q) : hk_S G M d cb sb pc L (st) h Q := by
  intro p l e R s m args below meth c H locs cells slots mc ms ls C hS hR hL hb
  exact lv_sipush C.1 C.2.1 hd hv (k p l e R s m args below meth c H locs cells slots mc ms ls C hS hR hL hb)
theorem hs_lconst {n : Fin 2} {v : Int64} (hd : decode M.2.1 pc = .ok (.lconst n, 1)) (hv : Int64.ofNat (n : Nat) = v) (k : hk_S G M d cb sb (pc + 1) L (.long v :: st) h Q) : hk_S G M d cb sb pc L (st) h Q := by
  intro p l e R s m args below meth c H locs cells slots mc ms ls C hS hR hL hb
  exact lv_lconst C.1 C.2.1 hd hv (k p l e R s m args below meth c H locs cells slots mc ms ls C hS hR hL hb)
theorem hs_null  (hd : decode M.2.1 pc = .ok (.aconst_null, 1)) (k : hk_S G M d cb sb (pc + 1) L (.null :: st) h Q) : hk_S G M d cb sb pc L (st) h Q := by
  intro p l e R s m args below meth c H locs cells slots mc ms ls C hS hR hL hb
  exact lv_null C.1 C.2.1 hd (k p l e R s m args below meth c H locs cells slots mc ms ls C hS hR hL hb)
theorem hs_iadd {x y : Int32} (hd : decode M.2.1 pc = .ok (.iadd, 1)) (k : hk_S G M d cb sb (pc + 1) L (.int (x + y) :: st) h Q) : hk_S G M d cb sb pc L (.int y :: .int x :: st) h Q := by
  intro p l e R s m args below meth c H locs cells slots mc ms ls C hS hR hL hb
  exact lv_iadd C.1 C.2.1 hd (k p l e R s m args below meth c H locs cells slots mc ms ls C hS hR hL hb)
theorem hs_isub {x y : Int32} (hd : decode M.2.1 pc = .ok (.isub, 1)) (k : hk_S G M d cb sb (pc + 1) L (.int (x - y) :: st) h Q) : hk_S G M d cb sb pc L (.int y :: .int x :: st) h Q := by
  intro p l e R s m args below meth c H locs cells slots mc ms ls C hS hR hL hb
  exact lv_isub C.1 C.2.1 hd (k p l e R s m args below meth c H locs cells slots mc ms ls C hS hR hL hb)
theorem hs_imul {x y : Int32} (hd : decode M.2.1 pc = .ok (.imul, 1)) (k : hk_S G M d cb sb (pc + 1) L (.int (x * y) :: st) h Q) : hk_S G M d cb sb pc L (.int y :: .int x :: st) h Q := by
  intro p l e R s m args below meth c H locs cells slots mc ms ls C hS hR hL hb
  exact lv_imul C.1 C.2.1 hd (k p l e R s m args below meth c H locs cells slots mc ms ls C hS hR hL hb)
theorem hs_iand {x y : Int32} (hd : decode M.2.1 pc = .ok (.iand, 1)) (k : hk_S G M d cb sb (pc + 1) L (.int (x &&& y) :: st) h Q) : hk_S G M d cb sb pc L (.int y :: .int x :: st) h Q := by
  intro p l e R s m args below meth c H locs cells slots mc ms ls C hS hR hL hb
  exact lv_iand C.1 C.2.1 hd (k p l e R s m args below meth c H locs cells slots mc ms ls C hS hR hL hb)
theorem hs_ior {x y : Int32} (hd : decode M.2.1 pc = .ok (.ior, 1)) (k : hk_S G M d cb sb (pc + 1) L (.int (x ||| y) :: st) h Q) : hk_S G M d cb sb pc L (.int y :: .int x :: st) h Q := by
  intro p l e R s m args below meth c H locs cells slots mc ms ls C hS hR hL hb
  exact lv_ior C.1 C.2.1 hd (k p l e R s m args below meth c H locs cells slots mc ms ls C hS hR hL hb)
theorem hs_ixor {x y : Int32} (hd : decode M.2.1 pc = .ok (.ixor, 1)) (k : hk_S G M d cb sb (pc + 1) L (.int (x ^^^ y) :: st) h Q) : hk_S G M d cb sb pc L (.int y :: .int x :: st) h Q := by
  intro p l e R s m args below meth c H locs cells slots mc ms ls C hS hR hL hb
  exact lv_ixor C.1 C.2.1 hd (k p l e R s m args below meth c H locs cells slots mc ms ls C hS hR hL hb)
theorem hs_ineg {x : Int32} (hd : decode M.2.1 pc = .ok (.ineg, 1)) (k : hk_S G M d cb sb (pc + 1) L (.int (-x) :: st) h Q) : hk_S G M d cb sb pc L (.int x :: st) h Q := by
  intro p l e R s m args below meth c H locs cells slots mc ms ls C hS hR hL hb
  exact lv_ineg C.1 C.2.1 hd (k p l e R s m args below meth c H locs cells slots mc ms ls C hS hR hL hb)
theorem hs_idiv {x y : Int32} (hd : decode M.2.1 pc = .ok (.idiv, 1)) (hne : ¬ y = 0) (k : hk_S G M d cb sb (pc + 1) L (.int (x / y) :: st) h Q) : hk_S G M d cb sb pc L (.int y :: .int x :: st) h Q := by
  intro p l e R s m args below meth c H locs cells slots mc ms ls C hS hR hL hb
  exact lv_idiv C.1 C.2.1 hd hne (k p l e R s m args below meth c H locs cells slots mc ms ls C hS hR hL hb)
theorem hs_irem {x y : Int32} (hd : decode M.2.1 pc = .ok (.irem, 1)) (hne : ¬ y = 0) (k : hk_S G M d cb sb (pc + 1) L (.int (x - x / y * y) :: st) h Q) : hk_S G M d cb sb pc L (.int y :: .int x :: st) h Q := by
  intro p l e R s m args below meth c H locs cells slots mc ms ls C hS hR hL hb
  exact lv_irem C.1 C.2.1 hd hne (k p l e R s m args below meth c H locs cells slots mc ms ls C hS hR hL hb)
theorem hs_ishl {x y : Int32} (hd : decode M.2.1 pc = .ok (.ishl, 1)) (k : hk_S G M d cb sb (pc + 1) L (.int (x <<< (y &&& 31)) :: st) h Q) : hk_S G M d cb sb pc L (.int y :: .int x :: st) h Q := by
  intro p l e R s m args below meth c H locs cells slots mc ms ls C hS hR hL hb
  exact lv_ishl C.1 C.2.1 hd (k p l e R s m args below meth c H locs cells slots mc ms ls C hS hR hL hb)
theorem hs_ishr {x y : Int32} (hd : decode M.2.1 pc = .ok (.ishr, 1)) (k : hk_S G M d cb sb (pc + 1) L (.int (x >>> (y &&& 31)) :: st) h Q) : hk_S G M d cb sb pc L (.int y :: .int x :: st) h Q := by
  intro p l e R s m args below meth c H locs cells slots mc ms ls C hS hR hL hb
  exact lv_ishr C.1 C.2.1 hd (k p l e R s m args below meth c H locs cells slots mc ms ls C hS hR hL hb)
theorem hs_iushr {x y : Int32} (hd : decode M.2.1 pc = .ok (.iushr, 1)) (k : hk_S G M d cb sb (pc + 1) L (.int (x.toUInt32 >>> (y.toUInt32 &&& Int32.toUInt32 31)).toInt32 :: st) h Q) : hk_S G M d cb sb pc L (.int y :: .int x :: st) h Q := by
  intro p l e R s m args below meth c H locs cells slots mc ms ls C hS hR hL hb
  exact lv_iushr C.1 C.2.1 hd rfl (k p l e R s m args below meth c H locs cells slots mc ms ls C hS hR hL hb)
theorem hs_ladd {x y : Int64} (hd : decode M.2.1 pc = .ok (.ladd, 1)) (k : hk_S G M d cb sb (pc + 1) L (.long (x + y) :: st) h Q) : hk_S G M d cb sb pc L (.long y :: .long x :: st) h Q := by
  intro p l e R s m args below meth c H locs cells slots mc ms ls C hS hR hL hb
  exact lv_ladd C.1 C.2.1 hd (k p l e R s m args below meth c H locs cells slots mc ms ls C hS hR hL hb)
theorem hs_i2l {x : Int32} (hd : decode M.2.1 pc = .ok (.i2l, 1)) (k : hk_S G M d cb sb (pc + 1) L (.long x.toInt64 :: st) h Q) : hk_S G M d cb sb pc L (.int x :: st) h Q := by
  intro p l e R s m args below meth c H locs cells slots mc ms ls C hS hR hL hb
  exact lv_i2l C.1 C.2.1 hd rfl (k p l e R s m args below meth c H locs cells slots mc ms ls C hS hR hL hb)
theorem hs_iload_n {i : Fin 4} {x : Int32} (hd : decode M.2.1 pc = .ok (.iload_n i, 1)) (hl : L[(i : Nat)]? = some (some (.int x))) (k : hk_S G M d cb sb (pc + 1) L (.int x :: st) h Q) : hk_S G M d cb sb pc L st h Q := by
  intro p l e R s m args below meth c H locs cells slots mc ms ls C hS hR hL hb
  exact lv_iload_n C.1 C.2.1 hd rfl (hL.2.2 _ _ hl) (k p l e R s m args below meth c H locs cells slots mc ms ls C hS hR hL hb)
theorem hs_iload {i : Nat} {x : Int32} (hd : decode M.2.1 pc = .ok (.iload i, 2)) (hl : L[i]? = some (some (.int x))) (k : hk_S G M d cb sb (pc + 2) L (.int x :: st) h Q) : hk_S G M d cb sb pc L st h Q := by
  intro p l e R s m args below meth c H locs cells slots mc ms ls C hS hR hL hb
  exact lv_iload C.1 C.2.1 hd (hL.2.2 _ _ hl) (k p l e R s m args below meth c H locs cells slots mc ms ls C hS hR hL hb)
theorem hs_lload_n {i : Fin 4} {x : Int64} (hd : decode M.2.1 pc = .ok (.lload_n i, 1)) (hl : L[(i : Nat)]? = some (some (.long x))) (k : hk_S G M d cb sb (pc + 1) L (.long x :: st) h Q) : hk_S G M d cb sb pc L st h Q := by
  intro p l e R s m args below meth c H locs cells slots mc ms ls C hS hR hL hb
  exact lv_lload_n C.1 C.2.1 hd rfl (hL.2.2 _ _ hl) (k p l e R s m args below meth c H locs cells slots mc ms ls C hS hR hL hb)
theorem hs_lload {i : Nat} {x : Int64} (hd : decode M.2.1 pc = .ok (.lload i, 2)) (hl : L[i]? = some (some (.long x))) (k : hk_S G M d cb sb (pc + 2) L (.long x :: st) h Q) : hk_S G M d cb sb pc L st h Q := by
  intro p l e R s m args below meth c H locs cells slots mc ms ls C hS hR hL hb
  exact lv_lload C.1 C.2.1 hd (hL.2.2 _ _ hl) (k p l e R s m args below meth c H locs cells slots mc ms ls C hS hR hL hb)
theorem hs_aload_n {i : Fin 4} {x : Nat} (hd : decode M.2.1 pc = .ok (.aload_n i, 1)) (hl : L[(i : Nat)]? = some (some (.ref x))) (k : hk_S G M d cb sb (pc + 1) L (.ref x :: st) h Q) : hk_S G M d cb sb pc L st h Q := by
  intro p l e R s m args below meth c H locs cells slots mc ms ls C hS hR hL hb
  exact lv_aload_n C.1 C.2.1 hd rfl (hL.2.2 _ _ hl) (k p l e R s m args below meth c H locs cells slots mc ms ls C hS hR hL hb)
theorem hs_aload {i : Nat} {x : Nat} (hd : decode M.2.1 pc = .ok (.aload i, 2)) (hl : L[i]? = some (some (.ref x))) (k : hk_S G M d cb sb (pc + 2) L (.ref x :: st) h Q) : hk_S G M d cb sb pc L st h Q := by
  intro p l e R s m args below meth c H locs cells slots mc ms ls C hS hR hL hb
  exact lv_aload C.1 C.2.1 hd (hL.2.2 _ _ hl) (k p l e R s m args below meth c H locs cells slots mc ms ls C hS hR hL hb)
theorem hs_aload_nN {i : Fin 4} (hd : decode M.2.1 pc = .ok (.aload_n i, 1)) (hl : L[(i : Nat)]? = some (some .null)) (k : hk_S G M d cb sb (pc + 1) L (.null :: st) h Q) : hk_S G M d cb sb pc L st h Q := by
  intro p l e R s m args below meth c H locs cells slots mc ms ls C hS hR hL hb
  exact lv_aload_nN C.1 C.2.1 hd rfl (hL.2.2 _ _ hl) (k p l e R s m args below meth c H locs cells slots mc ms ls C hS hR hL hb)
theorem hs_aloadN {i : Nat} (hd : decode M.2.1 pc = .ok (.aload i, 2)) (hl : L[i]? = some (some .null)) (k : hk_S G M d cb sb (pc + 2) L (.null :: st) h Q) : hk_S G M d cb sb pc L st h Q := by
  intro p l e R s m args below meth c H locs cells slots mc ms ls C hS hR hL hb
  exact lv_aloadN C.1 C.2.1 hd (hL.2.2 _ _ hl) (k p l e R s m args below meth c H locs cells slots mc ms ls C hS hR hL hb)
theorem hs_istore_n {i : Fin 4} {x : Int32} (hd : decode M.2.1 pc = .ok (.istore_n i, 1)) (hi : (i : Nat) < M.2.2.1) (hl : hk_st1 L (i : Nat) (.int x) = L') (k : hk_S G M d cb sb (pc + 1) L' st h Q) : hk_S G M d cb sb pc L (.int x :: st) h Q := by
  intro p l e R s m args below meth c H locs cells slots mc ms ls C hS hR hL hb
  obtain ⟨ls', e', hL'⟩ := hL.store1 (v := .int x) hi rfl
  rw [hl] at hL'
  have kk := k p l e R s m args below meth c H locs cells slots mc ms ls' C hS hR hL' hb
  have hexec := C.1
  have hcode := C.2.1
  intro T hT X
  obtain ⟨t, a, b⟩ := kk T hT X
  refine ⟨t, ?_, b⟩
  have e2 : storeLocals ls (i : Nat) (.int x) = some ls' := e'
  jvm_step X.here [X.here.top, ↓top_set X.here.top, hexec, hcode, hd, e2, Value.isRef, hk_cv, List.map_cons]
  exact a
theorem hs_istore {i : Nat} {x : Int32} (hd : decode M.2.1 pc = .ok (.istore i, 2)) (hi : i < M.2.2.1) (hl : hk_st1 L i (.int x) = L') (k : hk_S G M d cb sb (pc + 2) L' st h Q) : hk_S G M d cb sb pc L (.int x :: st) h Q := by
  intro p l e R s m args below meth c H locs cells slots mc ms ls C hS hR hL hb
  obtain ⟨ls', e', hL'⟩ := hL.store1 (v := .int x) hi rfl
  rw [hl] at hL'
  have kk := k p l e R s m args below meth c H locs cells slots mc ms ls' C hS hR hL' hb
  have hexec := C.1
  have hcode := C.2.1
  intro T hT X
  obtain ⟨t, a, b⟩ := kk T hT X
  refine ⟨t, ?_, b⟩
  have e2 : storeLocals ls i (.int x) = some ls' := e'
  jvm_step X.here [X.here.top, ↓top_set X.here.top, hexec, hcode, hd, e2, Value.isRef, hk_cv, List.map_cons]
  exact a
theorem hs_lstore_n {i : Fin 4} {x : Int64} (hd : decode M.2.1 pc = .ok (.lstore_n i, 1)) (hi : (i : Nat) + 1 < M.2.2.1) (hl : hk_st2 L (i : Nat) (.long x) = L') (k : hk_S G M d cb sb (pc + 1) L' st h Q) : hk_S G M d cb sb pc L (.long x :: st) h Q := by
  intro p l e R s m args below meth c H locs cells slots mc ms ls C hS hR hL hb
  obtain ⟨ls', e', hL'⟩ := hL.store2 (v := .long x) hi rfl
  rw [hl] at hL'
  have kk := k p l e R s m args below meth c H locs cells slots mc ms ls' C hS hR hL' hb
  have hexec := C.1
  have hcode := C.2.1
  intro T hT X
  obtain ⟨t, a, b⟩ := kk T hT X
  refine ⟨t, ?_, b⟩
  have e2 : storeLocals ls (i : Nat) (.long x) = some ls' := e'
  jvm_step X.here [X.here.top, ↓top_set X.here.top, hexec, hcode, hd, e2, Value.isRef, hk_cv, List.map_cons]
  exact a
theorem hs_lstore {i : Nat} {x : Int64} (hd : decode M.2.1 pc = .ok (.lstore i, 2)) (hi : i + 1 < M.2.2.1) (hl : hk_st2 L i (.long x) = L') (k : hk_S G M d cb sb (pc + 2) L' st h Q) : hk_S G M d cb sb pc L (.long x :: st) h Q := by
  intro p l e R s m args below meth c H locs cells slots mc ms ls C hS hR hL hb
  obtain ⟨ls', e', hL'⟩ := hL.store2 (v := .long x) hi rfl
  rw [hl] at hL'
  have kk := k p l e R s m args below meth c H locs cells slots mc ms ls' C hS hR hL' hb
  have hexec := C.1
  have hcode := C.2.1
  intro T hT X
  obtain ⟨t, a, b⟩ := kk T hT X
  refine ⟨t, ?_, b⟩
  have e2 : storeLocals ls i (.long x) = some ls' := e'
  jvm_step X.here [X.here.top, ↓top_set X.here.top, hexec, hcode, hd, e2, Value.isRef, hk_cv, List.map_cons]
  exact a
theorem hs_astore_n {i : Fin 4} {x : Nat} (hd : decode M.2.1 pc = .ok (.astore_n i, 1)) (hi : (i : Nat) < M.2.2.1) (hl : hk_st1 L (i : Nat) (.ref x) = L') (k : hk_S G M d cb sb (pc + 1) L' st h Q) : hk_S G M d cb sb pc L (.ref x :: st) h Q := by
  intro p l e R s m args below meth c H locs cells slots mc ms ls C hS hR hL hb
  obtain ⟨ls', e', hL'⟩ := hL.store1 (v := .ref x) hi rfl
  rw [hl] at hL'
  have kk := k p l e R s m args below meth c H locs cells slots mc ms ls' C hS hR hL' hb
  have hexec := C.1
  have hcode := C.2.1
  intro T hT X
  obtain ⟨t, a, b⟩ := kk T hT X
  refine ⟨t, ?_, b⟩
  have e2 : storeLocals ls (i : Nat) (.ref (hk_r G x)) = some ls' := e'
  jvm_step X.here [X.here.top, ↓top_set X.here.top, hexec, hcode, hd, e2, Value.isRef, hk_cv, List.map_cons]
  exact a
theorem hs_astore {i : Nat} {x : Nat} (hd : decode M.2.1 pc = .ok (.astore i, 2)) (hi : i < M.2.2.1) (hl : hk_st1 L i (.ref x) = L') (k : hk_S G M d cb sb (pc + 2) L' st h Q) : hk_S G M d cb sb pc L (.ref x :: st) h Q := by
  intro p l e R s m args below meth c H locs cells slots mc ms ls C hS hR hL hb
  obtain ⟨ls', e', hL'⟩ := hL.store1 (v := .ref x) hi rfl
  rw [hl] at hL'
  have kk := k p l e R s m args below meth c H locs cells slots mc ms ls' C hS hR hL' hb
  have hexec := C.1
  have hcode := C.2.1
  intro T hT X
  obtain ⟨t, a, b⟩ := kk T hT X
  refine ⟨t, ?_, b⟩
  have e2 : storeLocals ls i (.ref (hk_r G x)) = some ls' := e'
  jvm_step X.here [X.here.top, ↓top_set X.here.top, hexec, hcode, hd, e2, Value.isRef, hk_cv, List.map_cons]
  exact a
theorem hs_astore_nN {i : Fin 4}  (hd : decode M.2.1 pc = .ok (.astore_n i, 1)) (hi : (i : Nat) < M.2.2.1) (hl : hk_st1 L (i : Nat) (.null) = L') (k : hk_S G M d cb sb (pc + 1) L' st h Q) : hk_S G M d cb sb pc L (.null :: st) h Q := by
  intro p l e R s m args below meth c H locs cells slots mc ms ls C hS hR hL hb
  obtain ⟨ls', e', hL'⟩ := hL.store1 (v := .null) hi rfl
  rw [hl] at hL'
  have kk := k p l e R s m args below meth c H locs cells slots mc ms ls' C hS hR hL' hb
  have hexec := C.1
  have hcode := C.2.1
  intro T hT X
  obtain ⟨t, a, b⟩ := kk T hT X
  refine ⟨t, ?_, b⟩
  have e2 : storeLocals ls (i : Nat) (.null) = some ls' := e'
  jvm_step X.here [X.here.top, ↓top_set X.here.top, hexec, hcode, hd, e2, Value.isRef, hk_cv, List.map_cons]
  exact a
theorem hs_astoreN {i : Nat}  (hd : decode M.2.1 pc = .ok (.astore i, 2)) (hi : i < M.2.2.1) (hl : hk_st1 L i (.null) = L') (k : hk_S G M d cb sb (pc + 2) L' st h Q) : hk_S G M d cb sb pc L (.null :: st) h Q := by
  intro p l e R s m args below meth c H locs cells slots mc ms ls C hS hR hL hb
  obtain ⟨ls', e', hL'⟩ := hL.store1 (v := .null) hi rfl
  rw [hl] at hL'
  have kk := k p l e R s m args below meth c H locs cells slots mc ms ls' C hS hR hL' hb
  have hexec := C.1
  have hcode := C.2.1
  intro T hT X
  obtain ⟨t, a, b⟩ := kk T hT X
  refine ⟨t, ?_, b⟩
  have e2 : storeLocals ls i (.null) = some ls' := e'
  jvm_step X.here [X.here.top, ↓top_set X.here.top, hexec, hcode, hd, e2, Value.isRef, hk_cv, List.map_cons]
  exact a
theorem hs_iinc {i : Nat} {n : Int} {x v : Int32} (hd : decode M.2.1 pc = .ok (.iinc i n, 3)) (hx : L[i]? = some (some (.int x))) (hv : x + Int32.ofInt n = v) (hi : i < M.2.2.1) (hl : hk_st1 L i (.int v) = L') (k : hk_S G M d cb sb (pc + 3) L' st h Q) : hk_S G M d cb sb pc L st h Q := by
  intro p l e R s m args below meth c H locs cells slots mc ms ls C hS hR hL hb
  obtain ⟨ls', e', hL'⟩ := hL.store1 (v := .int v) hi rfl
  rw [hl] at hL'
  have kk := k p l e R s m args below meth c H locs cells slots mc ms ls' C hS hR hL' hb
  have hexec := C.1
  have hcode := C.2.1
  have hg : ls[i]? = some (.val (.int x)) := hL.2.2 _ _ hx
  intro T hT X
  obtain ⟨t, a, b⟩ := kk T hT X
  refine ⟨t, ?_, b⟩
  have e2 : storeLocals ls i (.int (x + Int32.ofInt n)) = some ls' := by rw [hv]; exact e'
  jvm_step X.here [X.here.top, ↓top_set X.here.top, hexec, hcode, hd, hg, e2]
  exact a
theorem hs_dup {v : Value} (hd : decode M.2.1 pc = .ok (.dup, 1)) (hc : v.category = 1) (k : hk_S G M d cb sb (pc + 1) L (v :: v :: st) h Q) : hk_S G M d cb sb pc L (v :: st) h Q := by
  intro p l e R s m args below meth c H locs cells slots mc ms ls C hS hR hL hb
  exact lv_dup C.1 C.2.1 hd (by rw [hk_cat]; exact hc) (k p l e R s m args below meth c H locs cells slots mc ms ls C hS hR hL hb)
theorem hs_pop {v : Value} (hd : decode M.2.1 pc = .ok (.pop, 1)) (hc : v.category = 1) (k : hk_S G M d cb sb (pc + 1) L (st) h Q) : hk_S G M d cb sb pc L (v :: st) h Q := by
  intro p l e R s m args below meth c H locs cells slots mc ms ls C hS hR hL hb
  exact lv_pop C.1 C.2.1 hd (by rw [hk_cat]; exact hc) (k p l e R s m args below meth c H locs cells slots mc ms ls C hS hR hL hb)
theorem hs_dup2 {v w : Value} (hd : decode M.2.1 pc = .ok (.dup2, 1)) (hc : v.category = 1) (hc2 : w.category = 1) (k : hk_S G M d cb sb (pc + 1) L (v :: w :: v :: w :: st) h Q) : hk_S G M d cb sb pc L (v :: w :: st) h Q := by
  intro p l e R s m args below meth c H locs cells slots mc ms ls C hS hR hL hb
  exact lv_dup2_11 C.1 C.2.1 hd (by rw [hk_cat]; exact hc) (by rw [hk_cat]; exact hc2) (k p l e R s m args below meth c H locs cells slots mc ms ls C hS hR hL hb)
theorem hs_if_eq {x : Int32} {off : Int} {tgt : Nat} (hd : decode M.2.1 pc = .ok (.ifCond .eq off, 3)) (ht : (pc : Int) + off = (tgt : Int)) (kt : x = 0 → hk_S G M d cb sb tgt L st h Q) (kf : ¬ x = 0 → hk_S G M d cb sb (pc + 3) L st h Q) : hk_S G M d cb sb pc L (.int x :: st) h Q := by
  intro p l e R s m args below meth c H locs cells slots mc ms ls C hS hR hL hb
  exact lv_if_eq C.1 C.2.1 hd ht (fun q => kt q p l e R s m args below meth c H locs cells slots mc ms ls C hS hR hL hb) (fun q => kf q p l e R s m args below meth c H locs cells slots mc ms ls C hS hR hL hb)
theorem hs_icmp_eq {x y : Int32} {off : Int} {tgt : Nat} (hd : decode M.2.1 pc = .ok (.if_icmp .eq off, 3)) (ht : (pc : Int) + off = (tgt : Int)) (kt : x = y → hk_S G M d cb sb tgt L st h Q) (kf : ¬ x = y → hk_S G M d cb sb (pc + 3) L st h Q) : hk_S G M d cb sb pc L (.int y :: .int x :: st) h Q := by
  intro p l e R s m args below meth c H locs cells slots mc ms ls C hS hR hL hb
  exact lv_icmp_eq C.1 C.2.1 hd ht (fun q => kt q p l e R s m args below meth c H locs cells slots mc ms ls C hS hR hL hb) (fun q => kf q p l e R s m args below meth c H locs cells slots mc ms ls C hS hR hL hb)
theorem hs_if_ne {x : Int32} {off : Int} {tgt : Nat} (hd : decode M.2.1 pc = .ok (.ifCond .ne off, 3)) (ht : (pc : Int) + off = (tgt : Int)) (kt : ¬ x = 0 → hk_S G M d cb sb tgt L st h Q) (kf : x = 0 → hk_S G M d cb sb (pc + 3) L st h Q) : hk_S G M d cb sb pc L (.int x :: st) h Q := by
  intro p l e R s m args below meth c H locs cells slots mc ms ls C hS hR hL hb
  exact lv_if_ne C.1 C.2.1 hd ht (fun q => kt q p l e R s m args below meth c H locs cells slots mc ms ls C hS hR hL hb) (fun q => kf q p l e R s m args below meth c H locs cells slots mc ms ls C hS hR hL hb)
theorem hs_icmp_ne {x y : Int32} {off : Int} {tgt : Nat} (hd : decode M.2.1 pc = .ok (.if_icmp .ne off, 3)) (ht : (pc : Int) + off = (tgt : Int)) (kt : ¬ x = y → hk_S G M d cb sb tgt L st h Q) (kf : x = y → hk_S G M d cb sb (pc + 3) L st h Q) : hk_S G M d cb sb pc L (.int y :: .int x :: st) h Q := by
  intro p l e R s m args below meth c H locs cells slots mc ms ls C hS hR hL hb
  exact lv_icmp_ne C.1 C.2.1 hd ht (fun q => kt q p l e R s m args below meth c H locs cells slots mc ms ls C hS hR hL hb) (fun q => kf q p l e R s m args below meth c H locs cells slots mc ms ls C hS hR hL hb)
theorem hs_if_lt {x : Int32} {off : Int} {tgt : Nat} (hd : decode M.2.1 pc = .ok (.ifCond .lt off, 3)) (ht : (pc : Int) + off = (tgt : Int)) (kt : x < 0 → hk_S G M d cb sb tgt L st h Q) (kf : ¬ x < 0 → hk_S G M d cb sb (pc + 3) L st h Q) : hk_S G M d cb sb pc L (.int x :: st) h Q := by
  intro p l e R s m args below meth c H locs cells slots mc ms ls C hS hR hL hb
  exact lv_if_lt C.1 C.2.1 hd ht (fun q => kt q p l e R s m args below meth c H locs cells slots mc ms ls C hS hR hL hb) (fun q => kf q p l e R s m args below meth c H locs cells slots mc ms ls C hS hR hL hb)
theorem hs_icmp_lt {x y : Int32} {off : Int} {tgt : Nat} (hd : decode M.2.1 pc = .ok (.if_icmp .lt off, 3)) (ht : (pc : Int) + off = (tgt : Int)) (kt : x < y → hk_S G M d cb sb tgt L st h Q) (kf : ¬ x < y → hk_S G M d cb sb (pc + 3) L st h Q) : hk_S G M d cb sb pc L (.int y :: .int x :: st) h Q := by
  intro p l e R s m args below meth c H locs cells slots mc ms ls C hS hR hL hb
  exact lv_icmp_lt C.1 C.2.1 hd ht (fun q => kt q p l e R s m args below meth c H locs cells slots mc ms ls C hS hR hL hb) (fun q => kf q p l e R s m args below meth c H locs cells slots mc ms ls C hS hR hL hb)
theorem hs_if_ge {x : Int32} {off : Int} {tgt : Nat} (hd : decode M.2.1 pc = .ok (.ifCond .ge off, 3)) (ht : (pc : Int) + off = (tgt : Int)) (kt : 0 ≤ x → hk_S G M d cb sb tgt L st h Q) (kf : ¬ 0 ≤ x → hk_S G M d cb sb (pc + 3) L st h Q) : hk_S G M d cb sb pc L (.int x :: st) h Q := by
  intro p l e R s m args below meth c H locs cells slots mc ms ls C hS hR hL hb
  exact lv_if_ge C.1 C.2.1 hd ht (fun q => kt q p l e R s m args below meth c H locs cells slots mc ms ls C hS hR hL hb) (fun q => kf q p l e R s m args below meth c H locs cells slots mc ms ls C hS hR hL hb)
theorem hs_icmp_ge {x y : Int32} {off : Int} {tgt : Nat} (hd : decode M.2.1 pc = .ok (.if_icmp .ge off, 3)) (ht : (pc : Int) + off = (tgt : Int)) (kt : y ≤ x → hk_S G M d cb sb tgt L st h Q) (kf : ¬ y ≤ x → hk_S G M d cb sb (pc + 3) L st h Q) : hk_S G M d cb sb pc L (.int y :: .int x :: st) h Q := by
  intro p l e R s m args below meth c H locs cells slots mc ms ls C hS hR hL hb
  exact lv_icmp_ge C.1 C.2.1 hd ht (fun q => kt q p l e R s m args below meth c H locs cells slots mc ms ls C hS hR hL hb) (fun q => kf q p l e R s m args below meth c H locs cells slots mc ms ls C hS hR hL hb)
theorem hs_if_gt {x : Int32} {off : Int} {tgt : Nat} (hd : decode M.2.1 pc = .ok (.ifCond .gt off, 3)) (ht : (pc : Int) + off = (tgt : Int)) (kt : 0 < x → hk_S G M d cb sb tgt L st h Q) (kf : ¬ 0 < x → hk_S G M d cb sb (pc + 3) L st h Q) : hk_S G M d cb sb pc L (.int x :: st) h Q := by
  intro p l e R s m args below meth c H locs cells slots mc ms ls C hS hR hL hb
  exact lv_if_gt C.1 C.2.1 hd ht (fun q => kt q p l e R s m args below meth c H locs cells slots mc ms ls C hS hR hL hb) (fun q => kf q p l e R s m args below meth c H locs cells slots mc ms ls C hS hR hL hb)
theorem hs_icmp_gt {x y : Int32} {off : Int} {tgt : Nat} (hd : decode M.2.1 pc = .ok (.if_icmp .gt off, 3)) (ht : (pc : Int) + off = (tgt : Int)) (kt : y < x → hk_S G M d cb sb tgt L st h Q) (kf : ¬ y < x → hk_S G M d cb sb (pc + 3) L st h Q) : hk_S G M d cb sb pc L (.int y :: .int x :: st) h Q := by
  intro p l e R s m args below meth c H locs cells slots mc ms ls C hS hR hL hb
  exact lv_icmp_gt C.1 C.2.1 hd ht (fun q => kt q p l e R s m args below meth c H locs cells slots mc ms ls C hS hR hL hb) (fun q => kf q p l e R s m args below meth c H locs cells slots mc ms ls C hS hR hL hb)
theorem hs_if_le {x : Int32} {off : Int} {tgt : Nat} (hd : decode M.2.1 pc = .ok (.ifCond .le off, 3)) (ht : (pc : Int) + off = (tgt : Int)) (kt : x ≤ 0 → hk_S G M d cb sb tgt L st h Q) (kf : ¬ x ≤ 0 → hk_S G M d cb sb (pc + 3) L st h Q) : hk_S G M d cb sb pc L (.int x :: st) h Q := by
  intro p l e R s m args below meth c H locs cells slots mc ms ls C hS hR hL hb
  exact lv_if_le C.1 C.2.1 hd ht (fun q => kt q p l e R s m args below meth c H locs cells slots mc ms ls C hS hR hL hb) (fun q => kf q p l e R s m args below meth c H locs cells slots mc ms ls C hS hR hL hb)
theorem hs_icmp_le {x y : Int32} {off : Int} {tgt : Nat} (hd : decode M.2.1 pc = .ok (.if_icmp .le off, 3)) (ht : (pc : Int) + off = (tgt : Int)) (kt : x ≤ y → hk_S G M d cb sb tgt L st h Q) (kf : ¬ x ≤ y → hk_S G M d cb sb (pc + 3) L st h Q) : hk_S G M d cb sb pc L (.int y :: .int x :: st) h Q := by
  intro p l e R s m args below meth c H locs cells slots mc ms ls C hS hR hL hb
  exact lv_icmp_le C.1 C.2.1 hd ht (fun q => kt q p l e R s m args below meth c H locs cells slots mc ms ls C hS hR hL hb) (fun q => kf q p l e R s m args below meth c H locs cells slots mc ms ls C hS hR hL hb)
theorem hs_goto  {off : Int} {tgt : Nat} (hd : decode M.2.1 pc = .ok (.goto off, 3)) (ht : (pc : Int) + off = (tgt : Int)) (k : hk_S G M d cb sb tgt L st h Q) : hk_S G M d cb sb pc L (st) h Q := by
  intro p l e R s m args below meth c H locs cells slots mc ms ls C hS hR hL hb
  exact lv_goto C.1 C.2.1 hd ht (k p l e R s m args below meth c H locs cells slots mc ms ls C hS hR hL hb)
theorem hs_ifnonnull {x : Nat} {off : Int} {tgt : Nat} (hd : decode M.2.1 pc = .ok (.ifnonnull off, 3)) (ht : (pc : Int) + off = (tgt : Int)) (k : hk_S G M d cb sb tgt L st h Q) : hk_S G M d cb sb pc L (.ref x :: st) h Q := by
  intro p l e R s m args below meth c H locs cells slots mc ms ls C hS hR hL hb
  exact lv_ifnonnull C.1 C.2.1 hd ht (k p l e R s m args below meth c H locs cells slots mc ms ls C hS hR hL hb)
theorem hs_ifnullN  {off : Int} {tgt : Nat} (hd : decode M.2.1 pc = .ok (.ifnull off, 3)) (ht : (pc : Int) + off = (tgt : Int)) (k : hk_S G M d cb sb tgt L st h Q) : hk_S G M d cb sb pc L (.null :: st) h Q := by
  intro p l e R s m args below meth c H locs cells slots mc ms ls C hS hR hL hb
  exact lv_ifnullN C.1 C.2.1 hd ht (k p l e R s m args below meth c H locs cells slots mc ms ls C hS hR hL hb)
theorem hs_ifnull {x : Nat} {off : Int} (hd : decode M.2.1 pc = .ok (.ifnull off, 3)) (k : hk_S G M d cb sb (pc + 3) L st h Q) : hk_S G M d cb sb pc L (.ref x :: st) h Q := by
  intro p l e R s m args below meth c H locs cells slots mc ms ls C hS hR hL hb
  exact lv_ifnull C.1 C.2.1 hd (k p l e R s m args below meth c H locs cells slots mc ms ls C hS hR hL hb)
theorem hs_ifnonnullN {off : Int} (hd : decode M.2.1 pc = .ok (.ifnonnull off, 3)) (k : hk_S G M d cb sb (pc + 3) L st h Q) : hk_S G M d cb sb pc L (.null :: st) h Q := by
  intro p l e R s m args below meth c H locs cells slots mc ms ls C hS hR hL hb
  exact lv_ifnonnullN C.1 C.2.1 hd (k p l e R s m args below meth c H locs cells slots mc ms ls C hS hR hL hb)
theorem hs_lookup {dflt : Int} {ps : Array (Int × Int)} {len : Nat} {x : Int32} {off : Int} {tgt : Nat} (hd : decode M.2.1 pc = .ok (.lookupswitch dflt ps, len)) (hp : (ps.toList.zip (ps.toList.drop 1)).all (fun (a, next) => a.1 < next.1) = true) (ho : Op.lookupswitch.offset ps.toList dflt x.toInt = off) (ht : (pc : Int) + off = (tgt : Int)) (k : hk_S G M d cb sb tgt L st h Q) : hk_S G M d cb sb pc L (.int x :: st) h Q := by
  intro p l e R s m args below meth c H locs cells slots mc ms ls C hS hR hL hb
  exact lv_lookup C.1 C.2.1 hd hp ho ht (k p l e R s m args below meth c H locs cells slots mc ms ls C hS hR hL hb)
theorem hs_tableOut {dflt lo hi : Int} {offs : Array Int} {len : Nat} {x : Int32} {tgt : Nat} (hd : decode M.2.1 pc = .ok (.tableswitch dflt lo hi offs, len)) (hx : x.toInt < lo ∨ hi < x.toInt) (ht : (pc : Int) + dflt = (tgt : Int)) (k : hk_S G M d cb sb tgt L st h Q) : hk_S G M d cb sb pc L (.int x :: st) h Q := by
  intro p l e R s m args below meth c H locs cells slots mc ms ls C hS hR hL hb
  exact lv_tableOut C.1 C.2.1 hd hx ht (k p l e R s m args below meth c H locs cells slots mc ms ls C hS hR hL hb)
theorem hs_tableIn {dflt lo hi : Int} {offs : Array Int} {len : Nat} {x : Int32} {off : Int} {tgt : Nat} (hd : decode M.2.1 pc = .ok (.tableswitch dflt lo hi offs, len)) (h1 : ¬ x.toInt < lo) (h2 : ¬ hi < x.toInt) (ho : offs[(x.toInt - lo).toNat]? = some off) (ht : (pc : Int) + off = (tgt : Int)) (k : hk_S G M d cb sb tgt L st h Q) : hk_S G M d cb sb pc L (.int x :: st) h Q := by
  intro p l e R s m args below meth c H locs cells slots mc ms ls C hS hR hL hb
  exact lv_tableIn C.1 C.2.1 hd h1 h2 ho ht (k p l e R s m args below meth c H locs cells slots mc ms ls C hS hR hL hb)
theorem hs_ldc {i : Nat} {v : Int32} (hd : decode M.2.1 pc = .ok (.ldc i, 2)) (hw : Cond.constant M.1.cls i v ∈ hk_ws) (k : hk_S G M d cb sb (pc + 2) L (.int v :: st) h Q) : hk_S G M d cb sb pc L st h Q := by
  intro p l e R s m args below meth c H locs cells slots mc ms ls C hS hR hL hb
  exact lv_ldc C.1 C.2.1 C.2.2.2.2.1 (C.2.2.2.2.2.1 _ hw) hd (k p l e R s m args below meth c H locs cells slots mc ms ls C hS hR hL hb)
theorem hs_ldcw {i : Nat} {v : Int32} (hd : decode M.2.1 pc = .ok (.ldc_w i, 3)) (hw : Cond.constant M.1.cls i v ∈ hk_ws) (k : hk_S G M d cb sb (pc + 3) L (.int v :: st) h Q) : hk_S G M d cb sb pc L st h Q := by
  intro p l e R s m args below meth c H locs cells slots mc ms ls C hS hR hL hb
  exact lv_ldcw C.1 C.2.1 C.2.2.2.2.1 (C.2.2.2.2.2.1 _ hw) hd (k p l e R s m args below meth c H locs cells slots mc ms ls C hS hR hL hb)
theorem hs_lcmp {x y : Int64} (hd : decode M.2.1 pc = .ok (.lcmp, 1)) (k : hk_S G M d cb sb (pc + 1) L (.int (lg_cmp x y) :: st) h Q) : hk_S G M d cb sb pc L (.long y :: .long x :: st) h Q := by
  intro p l e R s m args below meth c H locs cells slots mc ms ls C hS hR hL hb
  exact W.lcmp C.1 C.2.1 hd (k p l e R s m args below meth c H locs cells slots mc ms ls C hS hR hL hb)
theorem hs_iret {x : Int32} (hd : decode M.2.1 pc = .ok (.ireturn, 1)) (hr : M.2.2.2.1 = some .int) (hq : Q (.inl (some (.int x))) h) : hk_S G M d cb sb pc L ([.int x]) h Q := by
  intro p l e R s m args below meth c H locs cells slots mc ms ls C hS hR hL hb
  refine W.widen (k := mc) (n := ms) (by omega) (by omega) (vx_ret ?_)
  exact W.iret C.1 C.2.1 (C.2.2.1.trans hr) (fun t ht _ => ⟨_, h, rfl, hq, by rw [ht]; exact hR, hS.F ht⟩) (fun q hq' => hS.2.2 q hq') hd C.2.2.2.2.2.2.1
theorem hs_lret {x : Int64} (hd : decode M.2.1 pc = .ok (.lreturn, 1)) (hr : M.2.2.2.1 = some .long) (hq : Q (.inl (some (.long x))) h) : hk_S G M d cb sb pc L ([.long x]) h Q := by
  intro p l e R s m args below meth c H locs cells slots mc ms ls C hS hR hL hb
  refine W.widen (k := mc) (n := ms) (by omega) (by omega) (vx_ret ?_)
  exact W.lret C.1 C.2.1 (C.2.2.1.trans hr) (fun t ht _ => ⟨_, h, rfl, hq, by rw [ht]; exact hR, hS.F ht⟩) (fun q hq' => hS.2.2 q hq') hd C.2.2.2.2.2.2.1
theorem hs_zret {x : Int32} (hd : decode M.2.1 pc = .ok (.ireturn, 1)) (hr : M.2.2.2.1 = some .boolean) (hn : x = 0 ∨ x = 1) (hq : Q (.inl (some (.int x))) h) : hk_S G M d cb sb pc L ([.int x]) h Q := by
  intro p l e R s m args below meth c H locs cells slots mc ms ls C hS hR hL hb
  refine W.widen (k := mc) (n := ms) (by omega) (by omega) (vx_ret ?_)
  exact W.zret C.1 C.2.1 (C.2.2.1.trans hr) (by rcases hn with rfl | rfl <;> rfl) (fun t ht _ => ⟨_, h, rfl, hq, by rw [ht]; exact hR, hS.F ht⟩) (fun q hq' => hS.2.2 q hq') hd C.2.2.2.2.2.2.1
theorem hs_vret  (hd : decode M.2.1 pc = .ok (.return_, 1)) (hr : M.2.2.2.1 = none) (hq : Q (.inl (none)) h) : hk_S G M d cb sb pc L ([]) h Q := by
  intro p l e R s m args below meth c H locs cells slots mc ms ls C hS hR hL hb
  refine W.widen (k := mc) (n := ms) (by omega) (by omega) (vx_ret ?_)
  exact W.vret C.1 C.2.1 (C.2.2.1.trans hr) (fun t ht _ => ⟨_, h, rfl, hq, by rw [ht]; exact hR, hS.F ht⟩) (fun q hq' => hS.2.2 q hq') hd C.2.2.2.2.2.2.1
theorem hs_aret {v : Value} {rt : FieldType} (hd : decode M.2.1 pc = .ok (.areturn, 1)) (hr : M.2.2.2.1 = some rt) (hrt : (∃ n, rt = .object n) ∨ ∃ t, rt = .array t) (hv : v = .null ∨ ∃ a, v = .ref a) (hq : Q (.inl (some v)) h) : hk_S G M d cb sb pc L [v] h Q := by
  intro p l e R s m args below meth c H locs cells slots mc ms ls C hS hR hL hb
  refine W.widen (k := mc) (n := ms) (by omega) (by omega) (vx_ret ?_)
  exact W.aret C.1 C.2.1 (C.2.2.1.trans hr) hrt (by rcases hv with rfl | ⟨a, rfl⟩; exact Or.inl rfl; exact Or.inr ⟨_, rfl⟩) (fun t ht _ => ⟨some v, h, rfl, hq, by rw [ht]; exact hR, hS.F ht⟩) (fun q hq' => hS.2.2 q hq') hd C.2.2.2.2.2.2.1
end HS
end
section
/-! Rules of the instructions that read, write and make cells. -/
/-- class number ci: its name, fields, types; its words -/
def hk_Cls (ci : Nat) (C : String) (T : u_T) (N : Nat) (ty : Nat → FieldType) : Prop := hk_cl[ci]? = some (C, T, N) ∧ (∀ k, k < N → parseFieldDescriptor (T k).2.2.1 = some (ty k)) ∧ (∀ a, a < N → ∀ b, b < N → a ≠ b → (T a).2.1 ≠ (T b).2.1) ∧ (∀ w ∈ u_ws C T N, w ∈ hk_ws)
/-- the pool's entry idx of the class own is field k of objects of class number ci -/
def hk_fl (own : String) (idx ci k : Nat) : Prop := ∃ (C : String) (T : u_T) (N : Nat) (ty : Nat → FieldType) (ref : String), hk_Cls ci C T N ty ∧ k < N ∧ Cond.fieldLink own idx ref (T k).2.1 (T k).2.2.1 ∈ hk_ws ∧ (ref = (T k).1 ∨ Cond.sameField ref (T k).1 (T k).2.1 (T k).2.2.1 ∈ hk_ws)
/-- .. and it may be written there with a value of the type t (fin: a final field, in a constructor of its own class) -/
def hk_fw (own : String) (idx ci k : Nat) (t : FieldType) (fin : Bool) : Prop := ∃ (C : String) (T : u_T) (N : Nat) (ty : Nat → FieldType) (ref : String), hk_Cls ci C T N ty ∧ k < N ∧ Cond.fieldLink own idx ref (T k).2.1 (T k).2.2.1 ∈ hk_ws ∧ (ref = (T k).1 ∨ Cond.sameField ref (T k).1 (T k).2.1 (T k).2.2.1 ∈ hk_ws) ∧ ty k = t ∧ (T k).2.2.2 = fin ∧ (fin = true → (T k).1 = own)
theorem hk_same {s : State} {args : Array Value} {ref O n d : String} (hts : ∀ w ∈ hk_ws, w.before args s = true) (h : ref = O ∨ Cond.sameField ref O n d ∈ hk_ws) : ∀ x, s.fieldFound? O n d = some x → s.fieldFound? ref n d = some x := by
  rcases h with rfl | h
  · exact fun x hx => hx
  · exact u_same (hts _ h)
theorem hk_clamp {i : Int32} {j : Nat} (h : i.toInt = (j : Int)) : i.toNatClampNeg = j := by
  show i.toInt.toNat = j
  omega
theorem hk_vin {i : Int32} {j n : Nat} (h : i.toInt = (j : Int)) (hj : j < n) : vp_in i n := vp_in_iff.mpr ⟨by omega, by omega⟩
section HP
variable {G : hk_G} {M : hk_M} {d cb sb pc : Nat} {L : List (Option Value)} {st : List Value} {h : hk_H} {Q : hk_O → hk_H → Prop}
theorem hs_get {idx ci k a : Nat} {fs : List Value} {v : Value} (hd : decode M.2.1 pc = .ok (.getfield idx, 3)) (hf : hk_fl M.1.cls idx ci k) (ha : h.2 a = some (.inr (ci, fs))) (hv : fs[k]? = some v) (kk : hk_S G M d cb sb (pc + 3) L (v :: st) h Q) : hk_S G M d cb sb pc L (.ref a :: st) h Q := by
  intro p l e R s m args below meth c H locs cells slots mc ms ls C hS hR hL hb
  obtain ⟨Cn, T, N, ty, ref, ⟨hc, h1, h2, h3⟩, hk, hw, hsame⟩ := hf
  have hts := C.2.2.2.2.2.1
  refine va_get (D := G.1) (cl := hk_cl) (ws := [(hk_r G a, .inr (ci, fs.map (hk_cv G)))]) (v := hk_cv G v) C.1 C.2.1 hts h3 C.2.2.2.2.1 C.2.2.2.2.2.2.2.2.2.1.1 ?_ 0 rfl hc k hk (hts _ hw) (hk_same hts hsame) (by rw [List.getElem?_map, hv]; rfl) hd (kk p l e R s m args below meth c H locs cells slots mc ms ls C hS hR hL hb)
  intro k0 q hq
  cases k0 with
  | zero => cases hq; exact hR.2.2.2 a _ ha
  | succ j => cases hq
theorem hk_setl {G : hk_G} {fs : List Value} {k : Nat} {v : Value} (hk : k < fs.length) (j : Nat) : updV (vp_V (fs.map (hk_cv G))) k (hk_cv G v) j = vp_V ((fs.set k v).map (hk_cv G)) j := by
  rw [List.map_set]
  exact vp_updV_set (by simpa using hk) _ j
theorem hs_put {idx ci k a : Nat} {fs : List Value} {v : Value} {t : FieldType} (hd : decode M.2.1 pc = .ok (.putfield idx, 3)) (hf : hk_fw M.1.cls idx ci k t false) (ha : h.2 a = some (.inr (ci, fs))) (h4 : 4 ≤ a) (hl : k < fs.length) (hn : narrow t (hk_cv G v) = hk_cv G v) (hfit : fits t (hk_cv G v) = true) (kk : hk_S G M d cb sb (pc + 3) L st (hk_set h a (.inr (ci, fs.set k v))) Q) : hk_S G M d cb sb pc L (v :: .ref a :: st) h Q := by
  intro p l e R s m args below meth c H locs cells slots mc ms ls C hS hR hL hb
  obtain ⟨Cn, T, N, ty, ref, ⟨hc, g1, g2, g3⟩, hk, hw, hsame, hty, hfin, -⟩ := hf
  have hts := C.2.2.2.2.2.1
  have hK := C.2.2.2.2.2.2.2.2.2.1.1
  have hap := va_apart (own := M.1.cls) hts g3 ty g1 g2 hK hc
  obtain ⟨r, e1, cell, q1, q2, q3, q4⟩ := hR.2.2.2 a _ ha
  have hr : r = (Cn, T, N) := Option.some.inj (e1.symm.trans hc)
  subst hr
  obtain ⟨hSl, hfc, kC, hkC, hkind⟩ := hK.1 ci _ hc
  obtain ⟨cf, kf, fi, f, hi, hsl⟩ := hSl k hk
  have hlay := hts _ (g3 _ (u_in_lay hk))
  unfold u_lay at hlay
  rw [if_neg (by rw [hfin]; decide)] at hlay
  have hst := (u_facts hfc hkC (u_lays hts g3 hk) hi).1
  have h6 := u_store hfc hkC hkind hlay hi (g1 k hk) (by rw [hty]; exact hn) (by rw [hty]; exact hfit)
  refine W.putK C.1 C.2.1 (f := f) ⟨C.2.2.2.2.1, hts _ hw, ⟨_, _, _, hk_same hts hsame _ hi⟩, hst⟩ (by rw [q2]; exact h6) q1 q3 (by rw [hsl]; exact k2_hasslot (q4 k hk)) rfl rfl hd fun H' e1 e2 e3 => ?_
  rw [hsl] at e1 ⊢
  refine kk p l e R s m args below meth c H' _ cells slots mc ms ls C (hS.put e2 e3 (hR.own h4)) (hR.put h4 ?_ e2 e3) hL hb
  exact ⟨_, hc, t_OB.to (V := updV (vp_V (fs.map (hk_cv G))) k (hk_cv G v)) ⟨_, e1, q2, q3, t_set q4 hap hk _⟩ (fun j _ => hk_setl hl j)⟩
theorem hs_putF {idx ci k a : Nat} {fs : List Value} {v : Value} {t : FieldType} (hd : decode M.2.1 pc = .ok (.putfield idx, 3)) (hi0 : M.1.name = "<init>") (hf : hk_fw M.1.cls idx ci k t true) (ha : h.2 a = some (.inr (ci, fs))) (h4 : 4 ≤ a) (hl : k < fs.length) (hn : narrow t (hk_cv G v) = hk_cv G v) (hfit : fits t (hk_cv G v) = true) (kk : hk_S G M d cb sb (pc + 3) L st (hk_set h a (.inr (ci, fs.set k v))) Q) : hk_S G M d cb sb pc L (v :: .ref a :: st) h Q := by
  intro p l e R s m args below meth c H locs cells slots mc ms ls C hS hR hL hb
  obtain ⟨Cn, T, N, ty, ref, ⟨hc, g1, g2, g3⟩, hk, hw, hsame, hty, hfin, hdecl⟩ := hf
  have hdecl := hdecl rfl
  have hts := C.2.2.2.2.2.1
  have hown := C.2.2.2.2.1
  have hK := C.2.2.2.2.2.2.2.2.2.1.1
  have hap := va_apart (own := M.1.cls) hts g3 ty g1 g2 hK hc
  obtain ⟨r, e1, cell, q1, q2, q3, q4⟩ := hR.2.2.2 a _ ha
  have hr : r = (Cn, T, N) := Option.some.inj (e1.symm.trans hc)
  subst hr
  obtain ⟨hSl, hfc, kC, hkC, hkind⟩ := hK.1 ci _ hc
  obtain ⟨cf, kf, fi, f, hi, hsl⟩ := hSl k hk
  have hlay := hts _ (g3 _ (u_in_lay hk))
  unfold u_lay at hlay
  rw [if_pos hfin] at hlay
  have hst := (u_facts hfc hkC (u_lays hts g3 hk) hi).1
  have hcf : m.cls = cf := by
    obtain ⟨_, _, c', _, _, _, -, -, hf', -, -, -, hown2, -⟩ := Cond.laysFinal_spec hlay
    have e1 : c' = cf := by have := hi.symm.trans hf'; simp at this; exact this.1.symm
    rw [hdecl] at hown2
    rw [← e1]; exact Option.some.inj (hown.symm.trans hown2)
  have h6 := u_fits hfc hkC hkind (Or.inr hlay) hi (g1 k hk) (by rw [hty]; exact hn) (by rw [hty]; exact hfit)
  refine W.putFinK C.1 C.2.1 hown (hts _ hw) (hk_same hts hsame _ hi) hst hcf (C.2.2.2.2.2.2.2.1.trans hi0) (by rw [q2]; exact h6) q1 q3 (by rw [hsl]; exact k2_hasslot (q4 k hk)) rfl rfl hd fun H' e1 e2 e3 => ?_
  rw [hsl] at e1 ⊢
  refine kk p l e R s m args below meth c H' _ cells slots mc ms ls C (hS.put e2 e3 (hR.own h4)) (hR.put h4 ?_ e2 e3) hL hb
  exact ⟨_, hc, t_OB.to (V := updV (vp_V (fs.map (hk_cv G))) k (hk_cv G v)) ⟨_, e1, q2, q3, t_set q4 hap hk _⟩ (fun j _ => hk_setl hl j)⟩
theorem hs_alen {a t n : Nat} {x : (Nat → Int32) ⊕ (Nat → Int64) ⊕ (Nat → UInt32) ⊕ (Nat → UInt64) ⊕ (Nat → Option Nat)} (hd : decode M.2.1 pc = .ok (.arraylength, 1)) (ha : h.2 a = some (.inl (t, n, x))) (ht : t < 5) (kk : hk_S G M d cb sb (pc + 1) L (.int (Int32.ofNat n) :: st) h Q) : hk_S G M d cb sb pc L (.ref a :: st) h Q := by
  intro p l e R s m args below meth c H locs cells slots mc ms ls C hS hR hL hb
  obtain ⟨ty, hty⟩ : ∃ ty, (hk_tys G)[t]? = some (G.2.1 t, ty) := by
    rcases (show t = 0 ∨ t = 1 ∨ t = 2 ∨ t = 3 ∨ t = 4 by omega) with rfl | rfl | rfl | rfl | rfl <;> exact ⟨_, rfl⟩
  refine va_alen (D := G.1) (cl := hk_cl) (ws := [(hk_r G a, .inl (G.2.1 t, hk_ca G (n, x)))]) C.1 C.2.1 C.2.2.2.2.2.2.2.2.2.1.1 ?_ 0 t rfl hty ?_ hd (kk p l e R s m args below meth c H locs cells slots mc ms ls C hS hR hL hb)
  · intro k0 q hq
    cases k0 with
    | zero => cases hq; exact hR.2.2.2 a _ ha
    | succ j => cases hq
  · rcases x with f | f | f | f | f <;> rfl
theorem hs_iald {a n : Nat} {f : Nat → Int32} {i : Int32} (j : Nat) (hd : decode M.2.1 pc = .ok (.iaload, 1)) (ha : h.2 a = some (.inl (0, n, .inl f))) (hij : i.toInt = (j : Int)) (hj : j < n) (kk : hk_S G M d cb sb (pc + 1) L (.int (f j) :: st) h Q) : hk_S G M d cb sb pc L (.int i :: .ref a :: st) h Q := by
  intro p l e R s m args below meth c H locs cells slots mc ms ls C hS hR hL hb
  refine va_iald (D := G.1) (cl := hk_cl) (ws := [(hk_r G a, .inl (G.2.1 0, (n, .inl f)))]) C.1 C.2.1 C.2.2.2.2.2.2.2.2.2.1.1 ?_ 0 0 rfl rfl (hk_vin hij hj) hd ?_
  · intro k0 q hq
    cases k0 with
    | zero => cases hq; exact hR.2.2.2 a _ ha
    | succ j => cases hq
  · rw [hk_clamp hij]
    exact kk p l e R s m args below meth c H locs cells slots mc ms ls C hS hR hL hb
theorem hs_lald {a n : Nat} {f : Nat → Int64} {i : Int32} (j : Nat) (hd : decode M.2.1 pc = .ok (.laload, 1)) (ha : h.2 a = some (.inl (1, n, .inr (.inl f)))) (hij : i.toInt = (j : Int)) (hj : j < n) (kk : hk_S G M d cb sb (pc + 1) L (.long (f j) :: st) h Q) : hk_S G M d cb sb pc L (.int i :: .ref a :: st) h Q := by
  intro p l e R s m args below meth c H locs cells slots mc ms ls C hS hR hL hb
  refine va_lald (D := G.1) (cl := hk_cl) (ws := [(hk_r G a, .inl (G.2.1 1, (n, .inr (.inl f))))]) C.1 C.2.1 C.2.2.2.2.2.2.2.2.2.1.1 ?_ 0 1 rfl rfl (hk_vin hij hj) hd ?_
  · intro k0 q hq
    cases k0 with
    | zero => cases hq; exact hR.2.2.2 a _ ha
    | succ j => cases hq
  · rw [hk_clamp hij]
    exact kk p l e R s m args below meth c H locs cells slots mc ms ls C hS hR hL hb
theorem hs_zald {a n : Nat} {f : Nat → Int32} {i : Int32} (j : Nat) (hd : decode M.2.1 pc = .ok (.baload, 1)) (ha : h.2 a = some (.inl (2, n, .inl f))) (hij : i.toInt = (j : Int)) (hj : j < n) (kk : hk_S G M d cb sb (pc + 1) L (.int (f j) :: st) h Q) : hk_S G M d cb sb pc L (.int i :: .ref a :: st) h Q := by
  intro p l e R s m args below meth c H locs cells slots mc ms ls C hS hR hL hb
  refine va_zald (D := G.1) (cl := hk_cl) (ws := [(hk_r G a, .inl (G.2.1 2, (n, .inl f)))]) C.1 C.2.1 C.2.2.2.2.2.2.2.2.2.1.1 ?_ 0 2 rfl rfl (hk_vin hij hj) hd ?_
  · intro k0 q hq
    cases k0 with
    | zero => cases hq; exact hR.2.2.2 a _ ha
    | succ j => cases hq
  · rw [hk_clamp hij]
    exact kk p l e R s m args below meth c H locs cells slots mc ms ls C hS hR hL hb
/-- an element of a row of references: null, or a cell -/
def hk_rf (r : Option Nat) : Value := match r with
  | none => .null
  | some a => .ref a
theorem hs_aald {a t n : Nat} {f : Nat → Option Nat} {i : Int32} (j : Nat) (hd : decode M.2.1 pc = .ok (.aaload, 1)) (ha : h.2 a = some (.inl (t, n, .inr (.inr (.inr (.inr f)))))) (ht : t = 3 ∨ t = 4) (hij : i.toInt = (j : Int)) (hj : j < n) (kk : hk_S G M d cb sb (pc + 1) L (hk_rf (f j) :: st) h Q) : hk_S G M d cb sb pc L (.int i :: .ref a :: st) h Q := by
  intro p l e R s m args below meth c H locs cells slots mc ms ls C hS hR hL hb
  obtain ⟨E, hty⟩ : ∃ E, (hk_tys G)[t]? = some (G.2.1 t, .object E) := by
    rcases ht with rfl | rfl <;> exact ⟨_, rfl⟩
  refine va_aldq (D := G.1) (cl := hk_cl) (ws := [(hk_r G a, .inl (G.2.1 t, (n, .inr (.inr (.inr (.inr (fun j => (f j).map (hk_r G))))))))]) C.1 C.2.1 C.2.2.2.2.2.2.2.2.2.1.1 ?_ 0 t rfl hty (hk_vin hij hj) hd ?_
  · intro k0 q hq
    cases k0 with
    | zero => cases hq; exact hR.2.2.2 a _ ha
    | succ j => cases hq
  · rw [hk_clamp hij]
    have e9 : va_rf ((f j).map (hk_r G)) = hk_cv G (hk_rf (f j)) := by cases f j <;> rfl
    rw [e9]
    exact kk p l e R s m args below meth c H locs cells slots mc ms ls C hS hR hL hb
theorem hs_iast {a n : Nat} {f : Nat → Int32} {i x : Int32} (j : Nat) (hd : decode M.2.1 pc = .ok (.iastore, 1)) (ha : h.2 a = some (.inl (0, n, .inl f))) (h4 : 4 ≤ a) (hij : i.toInt = (j : Int)) (hj : j < n) (kk : hk_S G M d cb sb (pc + 1) L st (hk_set h a (.inl (0, n, .inl (upd f j x)))) Q) : hk_S G M d cb sb pc L (.int x :: .int i :: .ref a :: st) h Q := by
  intro p l e R s m args below meth c H locs cells slots mc ms ls C hS hR hL hb
  have hK := C.2.2.2.2.2.2.2.2.2.1.1
  have hin := hk_vin hij hj
  have hc : H[hk_r G a]? = some (vp_cell (G.2.1 0) (n, .inl f)) := hR.2.2.2 a _ ha
  refine W.iast C.1 C.2.1 hc ((hK.2 0 _ rfl).1 n (fun j => .int (f j))) (fun q => by cases q) (by show ¬ (i < 0 ∨ (arrV _ _ _).slots.size ≤ _); rw [arrV_size]; exact hin) rfl rfl hd fun H1 e1 z oq => ?_
  refine kk p l e R s m args below meth c H1 _ cells slots mc ms ls C (hS.put z oq (hR.own h4)) (hR.put h4 ?_ z oq) hL hb
  show H1[hk_r G a]? = some (vp_cell _ _)
  rw [e1, hk_clamp hij, vp_cell_i]
  show _ = some (vp_cell (G.2.1 0) (n, .inl (upd f j x)))
  rw [vp_cell_i, arrV_store]
  congr 2
  funext q
  by_cases hq : q = j <;> simp [upd, updV, hq]
theorem hs_last {a n : Nat} {f : Nat → Int64} {i : Int32} {x : Int64} (j : Nat) (hd : decode M.2.1 pc = .ok (.lastore, 1)) (ha : h.2 a = some (.inl (1, n, .inr (.inl f)))) (h4 : 4 ≤ a) (hij : i.toInt = (j : Int)) (hj : j < n) (kk : hk_S G M d cb sb (pc + 1) L st (hk_set h a (.inl (1, n, .inr (.inl (vp_updL f j x))))) Q) : hk_S G M d cb sb pc L (.long x :: .int i :: .ref a :: st) h Q := by
  intro p l e R s m args below meth c H locs cells slots mc ms ls C hS hR hL hb
  have hK := C.2.2.2.2.2.2.2.2.2.1.1
  have hin := hk_vin hij hj
  have hc : H[hk_r G a]? = some (vp_cell (G.2.1 1) (n, .inr (.inl f))) := hR.2.2.2 a _ ha
  refine W.last C.1 C.2.1 hc ((hK.2 1 _ rfl).1 n (fun j => .long (f j))) (fun q => by cases q) (by show ¬ (i < 0 ∨ (arrV _ _ _).slots.size ≤ _); rw [arrV_size]; exact hin) rfl rfl hd fun H1 e1 z oq => ?_
  refine kk p l e R s m args below meth c H1 _ cells slots mc ms ls C (hS.put z oq (hR.own h4)) (hR.put h4 ?_ z oq) hL hb
  show H1[hk_r G a]? = some (vp_cell _ _)
  rw [e1, hk_clamp hij, vp_cell_l]
  show _ = some (vp_cell (G.2.1 1) (n, .inr (.inl (vp_updL f j x))))
  rw [vp_cell_l, arrV_store]
  congr 2
  funext q
  by_cases hq : q = j <;> simp [vp_updL, updV, hq]
theorem hs_zast {a n : Nat} {f : Nat → Int32} {i x : Int32} (j : Nat) (hd : decode M.2.1 pc = .ok (.bastore, 1)) (ha : h.2 a = some (.inl (2, n, .inl f))) (h4 : 4 ≤ a) (hij : i.toInt = (j : Int)) (hj : j < n) (hx : x = 0 ∨ x = 1) (kk : hk_S G M d cb sb (pc + 1) L st (hk_set h a (.inl (2, n, .inl (upd f j x)))) Q) : hk_S G M d cb sb pc L (.int x :: .int i :: .ref a :: st) h Q := by
  intro p l e R s m args below meth c H locs cells slots mc ms ls C hS hR hL hb
  have hK := C.2.2.2.2.2.2.2.2.2.1.1
  have hin := hk_vin hij hj
  have hc : H[hk_r G a]? = some (vp_cell (G.2.1 2) (n, .inl f)) := hR.2.2.2 a _ ha
  have hnx : narrow .boolean (.int x) = .int x := by rcases hx with rfl | rfl <;> rfl
  refine W.zast C.1 C.2.1 hc ((hK.2 2 _ rfl).1 n (fun j => .int (f j))) (fun q => by cases q) (by show ¬ (i < 0 ∨ (arrV _ _ _).slots.size ≤ _); rw [arrV_size]; exact hin) rfl rfl hd fun H1 e1 z oq => ?_
  rw [hnx] at e1
  refine kk p l e R s m args below meth c H1 _ cells slots mc ms ls C (hS.put z oq (hR.own h4)) (hR.put h4 ?_ z oq) hL hb
  show H1[hk_r G a]? = some (vp_cell _ _)
  rw [e1, hk_clamp hij, vp_cell_i]
  show _ = some (vp_cell (G.2.1 2) (n, .inl (upd f j x)))
  rw [vp_cell_i, arrV_store]
  congr 2
  funext q
  by_cases hq : q = j <;> simp [upd, updV, hq]
/-- a row of references takes an object of the row's class, or of one under it -/
theorem hs_aast {a t n b ci : Nat} {vs : List Value} {f : Nat → Option Nat} {i : Int32} {r : vw_C} {E : String} (j : Nat) (hd : decode M.2.1 pc = .ok (.aastore, 1)) (ha : h.2 a = some (.inl (t, n, .inr (.inr (.inr (.inr f)))))) (ht : (hk_tys G)[t]? = some (G.2.1 t, .object E)) (h4 : 4 ≤ a) (hb0 : h.2 b = some (.inr (ci, vs))) (hc0 : hk_cl[ci]? = some r) (hE : r.1 = E ∨ (r.1, E) ∈ hk_cast) (hij : i.toInt = (j : Int)) (hj : j < n) (kk : hk_S G M d cb sb (pc + 1) L st (hk_set h a (.inl (t, n, .inr (.inr (.inr (.inr (va_up f j (some b)))))))) Q) : hk_S G M d cb sb pc L (.ref b :: .int i :: .ref a :: st) h Q := by
  intro p l e R s m args below meth c H locs cells slots mc ms ls C hS hR hL hb
  have hKK := C.2.2.2.2.2.2.2.2.2.1
  have hK := hKK.1
  have hin := hk_vin hij hj
  have h0 : ¬ i < 0 := fun q => hin (Or.inl q)
  have hlt : i.toNatClampNeg < n := Nat.not_le.mp fun q => hin (Or.inr q)
  have hc : H[hk_r G a]? = some (vp_cell (G.2.1 t) (n, .inr (.inr (.inr (.inr (fun j => (f j).map (hk_r G))))))) := hR.2.2.2 a _ ha
  obtain ⟨r', hr', cellV, g1, g2, g3, -⟩ := hR.2.2.2 b _ hb0
  have hcls := (hK.1 ci r hc0).2
  obtain ⟨kA, comp, k1, k2, k3, -⟩ := (hK.2 t _ ht).2
  obtain ⟨kE, hkE, -⟩ := Vm.findClass_spec k3
  obtain ⟨kC, hkC, -⟩ := hcls.2
  have hasg : s.vm.assignable (G.1.1 ci) comp = true := by
    rcases hE with rfl | hE
    · have : comp = G.1.1 ci := Option.some.inj (k3.symm.trans hcls.1)
      rw [this]
      exact va_assign hcls
    · exact vb_asgC (hKK.2.2.2.2.2.1 _ hE) comp _ k3 hcls.1
  refine W.aast C.1 C.2.1 hc (fun q h => by cases h) (fun h => by cases h) k1 k2 rfl hkE ⟨h0, by show _ < (arrV _ _ _).slots.size; rw [arrV_size]; exact hlt⟩ g1 (fun q h => by rw [g3] at h; cases h) (by rw [g2]; exact hkC) (by rw [g2]; exact hasg) rfl rfl hd fun H1 e1 z oq => ?_
  refine kk p l e R s m args below meth c H1 _ cells slots mc ms ls C (hS.put z oq (hR.own h4)) (hR.put h4 ?_ z oq) hL hb
  show H1[hk_r G a]? = some (vp_cell _ _)
  rw [e1, hk_clamp hij, vp_cell_q]
  show _ = some (vp_cell (G.2.1 t) (n, .inr (.inr (.inr (.inr (fun q => (va_up f j (some b) q).map (hk_r G)))))))
  rw [vp_cell_q, arrV_store]
  congr 2
  funext q
  by_cases hq : q = j <;> simp [va_up, updV, hq, va_rf]
theorem hs_newa {atype : ArrayType} {n : Int32} {t N : Nat} {ty : FieldType} {x : (Nat → Int32) ⊕ (Nat → Int64) ⊕ (Nat → UInt32) ⊕ (Nat → UInt64) ⊕ (Nat → Option Nat)} (hd : decode M.2.1 pc = .ok (.newarray atype, 2)) (hat : newarray.typeOf atype = ty) (hw : Cond.arrayClass ty ∈ hk_ws) (ht : (hk_tys G)[t]? = some (G.2.1 t, ty)) (hra : ∀ (U : State) (cA : ClassId), va_RA U cA ty = (U.vm.findClass ("[" ++ ty.toString) = some cA)) (hx : ∀ cA : ClassId, vp_cell cA (hk_ca G (N, x)) = arrV cA N (fun _ => defaultValue ty)) (hnN : n.toInt = (N : Int)) (hbytes : N * componentBytes ty ≤ 536870912) (kk : hk_S G M d cb sb (pc + 2) L (.ref h.1 :: st) (hk_new h (.inl (t, N, x))) Q) : hk_S G M d (cb + 1) (sb + N) pc L (.int n :: st) h Q := by
  intro p l e R s m args below meth c H locs cells slots mc ms ls C hS hR hL hb
  subst hat
  have hK := C.2.2.2.2.2.2.2.2.2.1.1
  have hts := C.2.2.2.2.2.1
  refine va_newaK C.1 C.2.1 (hts _ hw) rfl hd rfl (by rw [Int32.lt_iff_toInt_lt, Int32.toInt_zero]; omega) (hk_clamp hnN) hbytes (by omega) (by omega) rfl fun H1 cA e1 z o hAr hNm => ?_
  have hcA : cA = G.2.1 t := by
    have h9 := (hK.2 t _ ht).2
    rw [hra] at h9
    exact Option.some.inj (hNm.symm.trans h9)
  subst hcA
  have e9 : hk_cv G (.ref h.1) = .ref H.size := by
    show Value.ref (hk_r G h.1) = _
    rw [hR.top]
  rw [← e9]
  refine kk p l e R s m args below meth c H1 locs (cells + 1) (slots + N) mc ms ls C ⟨Nat.le_trans hS.1 (by omega), fun q h1 h2 => (o q (Nat.lt_of_lt_of_le h1 hS.1)).trans (hS.2.1 q h1 h2), hS.2.2⟩ (hR.push ?_ z o) hL (by omega)
  show H1[H.size]? = some (vp_cell _ _)
  rw [hx]
  exact e1
theorem hs_anew {idx : Nat} {n : Int32} {t N : Nat} {E : String} (hd : decode M.2.1 pc = .ok (.anewarray idx, 3)) (hw : Cond.classLink M.1.cls idx E ∈ hk_ws) (hE : (t = 3 ∧ E = RX5) ∨ (t = 4 ∧ E = RX4)) (hnN : n.toInt = (N : Int)) (hbytes : N * 4 ≤ 536870912) (kk : hk_S G M d cb sb (pc + 3) L (.ref h.1 :: st) (hk_new h (.inl (t, N, .inr (.inr (.inr (.inr (fun _ => none))))))) Q) : hk_S G M d (cb + 1) (sb + N) pc L (.int n :: st) h Q := by
  intro p l e R s m args below meth c H locs cells slots mc ms ls C hS hR hL hb
  have hKK := C.2.2.2.2.2.2.2.2.2.1
  have hK := hKK.1
  have hts := C.2.2.2.2.2.1
  have hAO : va_AO E s := by
    rcases hE with ⟨-, rfl⟩ | ⟨-, rfl⟩
    · exact hKK.2.2.2.2.2.2.2.2.1
    · exact hKK.2.2.2.2.2.2.2.2.2.1
  have hty : (hk_tys G)[t]? = some (G.2.1 t, .object E) := by
    rcases hE with ⟨rfl, rfl⟩ | ⟨rfl, rfl⟩ <;> rfl
  have hcl := hk_clamp hnN
  refine W.anew C.1 C.2.1 C.2.2.2.2.1 (hts _ hw) hAO.use rfl hd rfl (by rw [Int32.lt_iff_toInt_lt, Int32.toInt_zero]; omega) (by rw [hcl]; exact hbytes) (by omega) (by rw [hcl]; omega) fun cA kA comp h1 h2 h3 h4 => ?_
  rw [hcl]
  have hcA : cA = G.2.1 t := by
    obtain ⟨kA', comp', -, -, -, h9⟩ := (hK.2 t _ hty).2
    exact Option.some.inj (h1.symm.trans h9)
  subst hcA
  have e9 : hk_cv G (.ref h.1) = .ref H.size := by
    show Value.ref (hk_r G h.1) = _
    rw [hR.top]
  rw [← e9]
  have o : ∀ q, q < H.size → (H.push { cls := G.2.1 t, slots := Array.replicate N Value.null, vm := .none })[q]? = H[q]? := fun q hq => by
    rw [Array.getElem?_push, if_neg (Nat.ne_of_lt hq)]
  refine kk p l e R s m args below meth c _ locs (cells + 1) (slots + N) mc ms ls C ⟨Nat.le_trans hS.1 (by simp), fun q h1 h2 => (o q (Nat.lt_of_lt_of_le h1 hS.1)).trans (hS.2.1 q h1 h2), hS.2.2⟩ (hR.push ?_ (by simp) o) hL (by omega)
  show (H.push _)[H.size]? = some (vp_cell _ _)
  show (H.push _)[H.size]? = some (vp_cell (G.2.1 t) (N, .inr (.inr (.inr (.inr (fun j => (none : Option Nat).map (hk_r G)))))))
  rw [vp_cell_q]
  have e8 : (fun j : Nat => va_rf ((none : Option Nat).map (hk_r G))) = fun _ => Value.null := rfl
  rw [show (fun j : Nat => va_rf ((fun _ : Nat => (none : Option Nat).map (hk_r G)) j)) = fun _ => Value.null from rfl, ← arrV_new]
  simp
theorem hs_new {idx ci N : Nat} {C0 : String} {T : u_T} {ty : Nat → FieldType} {fs : List Value} (hd : decode M.2.1 pc = .ok (.new idx, 3)) (hc : hk_Cls ci C0 T N ty) (hw : Cond.classLink M.1.cls idx C0 ∈ hk_ws ∧ Cond.instantiable C0 N ∈ hk_ws ∧ Cond.initialized C0 ∈ hk_ws) (hfs : ∀ j, j < N → defaultValue (ty j) = vp_V (fs.map (hk_cv G)) j) (kk : hk_S G M d cb sb (pc + 3) L (.ref h.1 :: st) (hk_new h (.inr (ci, fs))) Q) : hk_S G M d (cb + 1) (sb + N) pc L st h Q := by
  intro p l e R s m args below meth c H locs cells slots mc ms ls C hS hR hL hb
  have hK := C.2.2.2.2.2.2.2.2.2.1.1
  have hts := C.2.2.2.2.2.1
  obtain ⟨hcc, g1, g2, g3⟩ := hc
  have hKn := hK.1 ci _ hcc
  refine W.newcK C.1 C.2.1 C.2.2.2.2.1 (hts _ hw.1) (hts _ hw.2.1) (hts _ hw.2.2) rfl hd (by omega) (by omega) hKn.2.1 rfl fun H1 kC hkC e1 z o => ?_
  have e9 : hk_cv G (.ref h.1) = .ref H.size := by
    show Value.ref (hk_r G h.1) = _
    rw [hR.top]
  rw [← e9]
  refine kk p l e R s m args below meth c H1 locs (cells + 1) (slots + N) mc ms ls C ⟨Nat.le_trans hS.1 (by omega), fun q h1 h2 => (o q (Nat.lt_of_lt_of_le h1 hS.1)).trans (hS.2.1 q h1 h2), hS.2.2⟩ (hR.push ?_ z o) hL (by omega)
  exact ⟨_, hcc, (u_born ty hts g3 hKn hkC e1 g1).to hfs⟩
theorem hs_gets {idx j : Nat} {nm : String} (hd : decode M.2.1 pc = .ok (.getstatic idx, 3)) (hM : M.1.cls = RX1) (hq : (j, nm) ∈ hk_sta) (hn : (idx, nm) ∈ hk_nest) (hj : j < 4) (kk : hk_S G M d cb sb (pc + 3) L (.ref j :: st) h Q) : hk_S G M d cb sb pc L st h Q := by
  intro p l e R s m args below meth c H locs cells slots mc ms ls C hS hR hL hb
  have hKK := C.2.2.2.2.2.2.2.2.2.1
  refine va_getsN C.1 C.2.1 (hKK.2.2.2.1 (j, nm) hq) hS (index := idx) (by have := C.2.2.2.2.1; rw [hM] at this; exact this) (va_Nw.use rfl (hKK.2.2.2.2.2.2.2.1 (idx, nm) hn)) (fun x hx => hx) hd ?_
  have e9 : hk_cv G (.ref j) = .ref (G.2.2.1 j) := by
    show Value.ref (hk_r G j) = _
    unfold hk_r
    rw [if_pos hj]
  rw [← e9]
  exact kk p l e R s m args below meth c H locs cells slots mc ms ls C hS hR hL hb
/-- Object's constructor -/
theorem hs_objInit {idx a : Nat} (hd : decode M.2.1 pc = .ok (.invokespecial idx, 3)) (hw : Cond.methodLink M.1.cls idx Lib.objectInit ∈ hk_ws ∧ Cond.instanceMethod Lib.objectInit ∈ hk_ws ∧ Cond.code Lib.objectInit ⟨#[0xb1]⟩ 1 none ∈ hk_ws) (hst : (st.map (fun v => v.category)).sum ≤ 300) (kk : hk_S G M d cb sb (pc + 3) L st h Q) : hk_S G M d cb sb pc L (.ref a :: st) h Q := by
  intro p l e R s m args below meth c H locs cells slots mc ms ls C hS hR hL hb
  have hts := C.2.2.2.2.2.1
  have hfr := C.2.2.2.2.2.2.2.2.2.2.2.1
  have hlo := C.2.2.2.2.2.2.2.2.2.2.2.2.1
  refine W.objInit C.1 C.2.1 C.2.2.2.2.1 (hts _ hw.1) (hts _ hw.2.1) (hts _ hw.2.2) rfl (hL.1.trans C.2.2.2.1.symm) rfl hd (by omega) ?_ (kk p l e R s m args below meth c H locs cells slots mc ms ls C hS hR hL hb)
  have e9 : (List.map (fun v => Value.category v) (st.map (hk_cv G))) = st.map (fun v => v.category) := by
    rw [List.map_map]
    exact List.map_congr_left fun v _ => hk_cat G v
  show 2 * 0 + _ + 12 ≤ _
  rw [e9]
  omega
end HP
end
section
/-! Calls: a method's frame judgement from its entry is its contract at every call. -/
def hk_room (d c s : Nat) : Room := { frames := d + 8, cells := c, slots := s, locals := 64 * d + 400 }
theorem hk_room_fr (d c s : Nat) : (hk_room d c s).frames = d + 8 := rfl
theorem hk_room_lo (d c s : Nat) : (hk_room d c s).locals = 64 * d + 400 := rfl
theorem hk_fr1 {d c s r : Nat} (h : d + 1 + 8 ≤ r) : (hk_room d c s).frames + 1 ≤ r := by rw [hk_room_fr]; omega
set_option maxRecDepth 10000 in
theorem hk_lo1 {a d c s r : Nat} (h : a ≤ 45) (h2 : 64 * (d + 1) + 400 ≤ r) : 8 + (a + 11) + (hk_room d c s).locals ≤ r := by rw [hk_room_lo]; omega
def hk_Pc (G : hk_G) (vs : List Value) (h : hk_H) : Array Value → State → Prop := fun a U => a = (vs.map (hk_cv G)).toArray ∧ hk_K G U U.heap ∧ hk_R G U.heap h
/-- the method M, begun with the values vs -/
def hk_E (G : hk_G) (M : hk_M) (d cb sb : Nat) (vs : List Value) (h : hk_H) (Q : hk_O → hk_H → Prop) : Prop := (hk_ar vs).length ≤ M.2.2.1 ∧ hk_S G M d cb sb 0 (hk_en vs M.2.2.1) [] h Q
theorem hk_blind {G : hk_G} {vs : List Value} {h : hk_H} : FrameBlind (hk_Pc G vs h) := fun _ U _ _ q => ⟨q.1, q.2.1.go (State.WarmedH.refl U) (fun _ _ _ => rfl), q.2.2⟩
def hk_cw (M : hk_M) : Cond := if M.2.2.2.2 = [] then .code M.1 M.2.1 M.2.2.1 M.2.2.2.1 else .codeWith M.1 M.2.1 M.2.2.1 M.2.2.2.1 M.2.2.2.2
/-- what the tables say of a method that is called with n values (the receiver not counted) -/
def hk_ok (M : hk_M) (n : Nat) : Prop := plainName M.1.cls = true ∧ (M.1.cls ≠ "java/lang/invoke/MethodHandle" ∧ M.1.cls ≠ "java/lang/invoke/VarHandle") ∧ (parseMethodDescriptor M.1.desc).map (fun d => d.parameters.length) = some n ∧ M.2.2.1 ≤ 45 ∧ Cond.initialized M.1.cls ∈ hk_ws ∧ hk_cw M ∈ hk_ws
theorem hk_good {w : Cond} (h : w ∈ hk_ws) : goodWord w = true := (List.mem_filter.mp h).2
theorem hk_mem {w : Cond} (i : Nat) (h : lw_tbl[i]? = some w) (hg : goodWord w = true) : w ∈ hk_ws := List.mem_filter.mpr ⟨List.mem_of_getElem? h, hg⟩
theorem hk_word {s : State} {args : Array Value} (hts : ∀ w ∈ hk_ws, w.before args s = true) {w : Cond} (h : w ∈ hk_ws) (a' : Array Value) (U : State) (hW : s.WarmedH U.vm) : w.before a' U = true := word_at hW (good_of_word (hk_good h)) (hts w h)
set_option maxHeartbeats 1000000 in
theorem hk_met {G : hk_G} {M : hk_M} {d cb sb n : Nat} {vs : List Value} {h : hk_H} {Q : hk_O → hk_H → Prop} {l : Launch} (hl : l.stackTraces = false) (hok : hk_ok M n) (hE : hk_E G M d cb sb vs h Q) : vx_Met l M.1 (hk_cw M :: hk_ws) (hk_room d cb sb) (hk_Pc G vs h) (hk_Qc G Q) (hk_XC G Q) cb sb (hk_A G) := by
  have fin : ∀ (p : Program) (e : Env) (s : State) (m : MethodId) (args : Array Value) (below : List Frame) (meth : Method) (c : Code) (s₁ : State), BodyLoose p l M.1 (headSpec (hk_cw M :: hk_ws) (hk_room d cb sb)) M.2.1 M.2.2.1 M.2.2.2.1 e s m args below meth c s₁ → c.maxLocals = M.2.2.1 → c.exceptionTable.toList = tableOf M.2.2.2.2 → hk_Pc G vs h args s →
      W p l e (headSpec (hk_cw M :: hk_ws) (hk_room d cb sb)).room s m args below meth c s.heap [] 0 0 (vx_MQ below (hk_Qc G Q) (hk_XC G Q) args s cb sb (hk_A G)) (entryFrame m args M.2.2.1) := by
    intro p e s m args below meth c s₁ B hml htab hv
    obtain ⟨rfl, hK, hR⟩ := hv
    have hts := atoms_spec (ws := hk_cw M :: hk_ws) B.pre
    rw [lg_entry_eq]
    refine hE.2 p l e _ s m _ below meth c s.heap [] 0 0 cb sb _ ⟨B.exec, B.bytes, B.returns, hml, findClass_of_methodNamed B.named, fun w hw => hts w (List.mem_cons_of_mem _ hw), B.notSynchronized, (name_of_methodNamed B.named B.method).1, htab, hK, hl, Nat.le_refl _, Nat.le_refl _, ?_⟩ va_S.rf hR (hk_entry vs hE.1) ⟨by omega, by omega, Nat.le_refl _, Nat.le_refl _⟩
    have := hR.1
    omega
  by_cases hh : M.2.2.2.2 = []
  · have e1 : hk_cw M = .code M.1 M.2.1 M.2.2.1 M.2.2.2.1 := if_pos hh
    refine vx_ofW (cc := M.2.1) (maxL := M.2.2.1) (ret := M.2.2.2.1) hok.1 (by rw [e1]) ?_
    intro p e s m args below meth c s₁ B hml ht hP
    refine fin p e s m args below meth c s₁ B hml ?_ hP
    rw [hh]
    cases h9 : c.exceptionTable.toList with
    | nil => rfl
    | cons x xs => exact (ht x (by rw [h9]; exact List.mem_cons_self)).elim
  · have e1 : hk_cw M = .codeWith M.1 M.2.1 M.2.2.1 M.2.2.2.1 M.2.2.2.2 := if_neg hh
    refine vx_ofWH (cc := M.2.1) (maxL := M.2.2.1) (ret := M.2.2.2.1) (hh := M.2.2.2.2) hok.1 (by rw [e1]) ?_
    intro p e s m args below meth c s₁ B hml hP
    exact fin p e s m args below meth c s₁ B hml (vx_table (x := M.1) B (by rw [← e1]; exact atoms_spec (ws := hk_cw M :: hk_ws) B.pre _ List.mem_cons_self)) hP
theorem hk_metr {G : hk_G} {M : hk_M} {d cb sb n : Nat} {vs : List Value} {h : hk_H} {Q : hk_O → hk_H → Prop} {l : Launch} (hl : l.stackTraces = false) (hok : hk_ok M n) (hE : hk_E G M d cb sb vs h Q) (hno : ∀ E h', ¬ Q (.inr E) h') : Met l M.1 (hk_cw M :: hk_ws) (hk_room d cb sb) (hk_Pc G vs h) (hk_Qc G Q) cb sb (hk_A G) := by
  have hM := hk_met hl hok hE
  intro p e ha hc hk s m args below hf happ hP hT
  obtain ⟨k, o, h1, h2, h3, hQ⟩ := hM p e ha hc hk s m args below hf happ hP hT
  refine ⟨k, o, h1, h2, h3, ?_⟩
  rcases hQ with hQ | ⟨q, -, E, ce, LL, ⟨h', h9, -⟩, -⟩
  · exact hQ
  · exact (hno _ _ h9).elim
theorem hk_cats {G : hk_G} (st : List Value) : (List.map (fun v => Value.category v) (st.map (hk_cv G))) = st.map (fun v => v.category) := by
  rw [List.map_map]
  exact List.map_congr_left fun v _ => hk_cat G v
theorem hk_len {M : hk_M} {n : Nat} (hok : hk_ok M n) : ∀ sig, parseMethodDescriptor M.1.desc = some sig → n = sig.parameters.length := fun sig h => by
  have h2 := hok.2.2.1
  rw [h] at h2
  exact (Option.some.inj h2).symm
section HC
variable {G : hk_G} {M M' : hk_M} {d c1 s1 c2 s2 pc : Nat} {L : List (Option Value)} {st : List Value} {h : hk_H} {Q Qe : hk_O → hk_H → Prop}
/-- behind a call that came back -/
theorem hk_back {p : Program} {l : Launch} {e : Env} {R : Room} {s : State} {m : MethodId} {args : Array Value} {below : List Frame} {meth : Method} {c : Code} {H : Heap} {locs : List Loc} {cells slots mc ms : Nat} {ls : Array Slot} {g : JFrame} {a : Array Value}
    (hg : g = F0 m pc ls g.stack) (C : hk_Cx G M (d + 1) p l R s m args meth c) (hS : va_S (hk_A G) s.heap H locs) (hL : hk_L G ls M.2.2.1 L) (hb : cells + (c1 + c2) ≤ mc ∧ slots + (s1 + s2) ≤ ms ∧ mc ≤ R.cells ∧ ms ≤ R.slots)
    (run : va_Run p l e R s m args below meth c H locs cells slots c1 s1 g (st.map (hk_cv G)) (hk_Qc G Qe a) (hk_A G))
    (kk : ∀ v h', Qe (.inl v) h' → hk_S G M (d + 1) c2 s2 (pc + 3) L (v.toList ++ st) h' Q) : W p l e R s m args below meth c H locs cells slots (vx_MQ below (hk_Qc G Q) (hk_XC G Q) args s mc ms (hk_A G)) g := by
  intro T hT X
  obtain ⟨v, st₀, t, T', L9, h0, X', hL9, e1, e2, ⟨v', h', hv, hq, hR', hF⟩, go⟩ := run T hT X
  cases hv
  have hS' : va_S (hk_A G) s.heap T'.heap (locs ++ L9) := by
    refine ⟨Nat.le_trans hS.1 ?_, fun q g1 g2 => ?_, fun q hq => ?_⟩
    · rw [e1, ← h0]; exact hF.1
    · rw [e1, hF.2 q (by rw [h0]; exact Nat.lt_of_lt_of_le g1 hS.1) g2, h0]
      exact hS.2.1 q g1 g2
    · rcases List.mem_append.mp hq with g | g
      · exact hS.2.2 q g
      · exact hL9 q g
  obtain ⟨t2, a1, b1⟩ := kk v' h' hq p l e R s m args below meth c T'.heap (locs ++ L9) (cells + c1) (slots + s1) mc ms ls C hS' (by rw [e1]; exact hR') hL (by omega) T' rfl X'
  refine ⟨t2, go t2 ?_, b1⟩
  have e9 : ({ g with pc := g.pc + 3, stack := (v'.map (hk_cv G)).toList ++ st.map (hk_cv G) } : JFrame) = F0 m (pc + 3) ls ((v'.toList ++ st).map (hk_cv G)) := by
    rw [hg]
    cases v' <;> rfl
  rw [e9]
  exact a1
theorem hk_fix {p : Program} {l : Launch} {R : Room} {s : State} {m : MethodId} {args : Array Value} {meth : Method} {c : Code} (C : hk_Cx G M d p l R s m args meth c) : CallFix p m c M.2.1 M.2.2.1 s args hk_ws M.1.cls := ⟨C.1, C.2.1, C.2.2.2.1, C.2.2.2.2.1, C.2.2.2.2.2.1⟩
theorem hk_callB {p : Program} {l : Launch} {R : Room} {s : State} {m : MethodId} {args : Array Value} {meth : Method} {c : Code} {n idx : Nat} (C : hk_Cx G M (d + 1) p l R s m args meth c) (hok : hk_ok M' n) (hh : M'.2.2.2.2 = []) (hw : Cond.methodLink M.1.cls idx M'.1 ∈ hk_ws) : CallB R s args M.1.cls idx M'.1 M'.2.1 M'.2.2.1 M'.2.2.2.1 (hk_cw M' :: hk_ws) (hk_room d c1 s1) c1 s1 n := by
  have hts := C.2.2.2.2.2.1
  have hfr := C.2.2.2.2.2.2.2.2.2.2.2.1
  have hlo := C.2.2.2.2.2.2.2.2.2.2.2.2.1
  have e1 : hk_cw M' = .code M'.1 M'.2.1 M'.2.2.1 M'.2.2.2.1 := if_pos hh
  obtain ⟨o1, o2, o3, o4, o5, o6⟩ := id hok
  refine ⟨rfl, rfl, hk_fr1 hfr, hk_lo1 o4 hlo, fun w hw a' U hW => ?_, by rw [e1]; exact List.mem_cons_self, hts _ (by rw [← e1]; exact o6), hts _ o5, o2, hk_len hok, hts _ hw⟩
  rcases List.mem_cons.mp hw with rfl | hw
  · exact hk_word hts o6 a' U hW
  · exact hk_word hts hw a' U hW
theorem hk_pre {p : Program} {l : Launch} {R : Room} {s : State} {m : MethodId} {args : Array Value} {meth : Method} {c : Code} {H : Heap} {locs : List Loc} {vs : List Value} (C : hk_Cx G M d p l R s m args meth c) (hS : va_S (hk_A G) s.heap H locs) (hR : hk_R G H h) : ∀ U : State, U.heap = H → s.WarmedH U.vm → hk_Pc G vs h (vs.map (hk_cv G)).toArray U := fun U hU hW =>
  ⟨rfl, C.2.2.2.2.2.2.2.2.2.1.go hW (fun q g1 g2 => by rw [hU]; exact hS.2.1 q g1 g2), by rw [hU]; exact hR⟩
/-- a static method -/
theorem hs_callS {idx n : Nat} {vs : List Value} (hd : decode M.2.1 pc = .ok (.invokestatic idx, 3)) (hok : hk_ok M' n) (hh : M'.2.2.2.2 = []) (hw : Cond.methodLink M.1.cls idx M'.1 ∈ hk_ws) (hst : Cond.static M'.1 ∈ hk_ws) (hn : vs.length = n) (hcat : (st.map (fun v => v.category)).sum ≤ 8)
    (hE : hk_E G M' d c1 s1 vs h Qe) (hno : ∀ E h', ¬ Qe (.inr E) h') (kk : ∀ v h', Qe (.inl v) h' → hk_S G M (d + 1) c2 s2 (pc + 3) L (v.toList ++ st) h' Q) : hk_S G M (d + 1) (c1 + c2) (s1 + s2) pc L (vs.reverse ++ st) h Q := by
  intro p l e R s m args below meth c H locs cells slots mc ms ls C hS hR hL hb
  have hts := C.2.2.2.2.2.1
  refine hk_back (g := F0 m pc ls ((vs.reverse ++ st).map (hk_cv G))) rfl C hS hL hb (a := (vs.map (hk_cv G)).toArray) ?_ kk
  exact va_runS (As := vs.map (hk_cv G)) (hk_fix C) (hk_metr C.2.2.2.2.2.2.2.2.2.2.1 hok hE hno) ⟨hk_callB C hok hh hw, hts _ hst⟩ ⟨hk_blind, hk_pre C hS hR⟩ rfl (by rw [List.length_map]; exact hn) hL.1 (by show (vs.reverse ++ st).map (hk_cv G) = _; rw [List.map_append, List.map_reverse]) (by show 2 * 0 + _ ≤ 8; rw [hk_cats]; omega) hd ⟨by omega, by omega⟩
/-- a constructor -/
theorem hs_callI {idx n a : Nat} {vs : List Value} (hd : decode M.2.1 pc = .ok (.invokespecial idx, 3)) (hok : hk_ok M' n) (hh : M'.2.2.2.2 = []) (hr : M'.2.2.2.1 = none) (hi : M'.1.name = "<init>") (hw : Cond.methodLink M.1.cls idx M'.1 ∈ hk_ws) (hin : Cond.instanceMethod M'.1 ∈ hk_ws) (hn : vs.length = n) (hcat : (st.map (fun v => v.category)).sum ≤ 8)
    (hE : hk_E G M' d c1 s1 (.ref a :: vs) h Qe) (hno : ∀ E h', ¬ Qe (.inr E) h') (kk : ∀ v h', Qe (.inl v) h' → hk_S G M (d + 1) c2 s2 (pc + 3) L (v.toList ++ st) h' Q) : hk_S G M (d + 1) (c1 + c2) (s1 + s2) pc L (vs.reverse ++ .ref a :: st) h Q := by
  intro p l e R s m args below meth c H locs cells slots mc ms ls C hS hR hL hb
  have hts := C.2.2.2.2.2.1
  have hB := hk_callB (c1 := c1) (s1 := s1) C hok hh hw
  rw [hr] at hB
  refine hk_back (g := F0 m pc ls ((vs.reverse ++ .ref a :: st).map (hk_cv G))) rfl C hS hL hb (a := ((.ref a :: vs).map (hk_cv G)).toArray) ?_ kk
  exact va_runI (As := vs.map (hk_cv G)) (b := hk_r G a) (hk_fix C) (hk_metr C.2.2.2.2.2.2.2.2.2.2.1 hok hE hno) ⟨hB, hi, hts _ hin⟩ ⟨hk_blind, hk_pre (vs := .ref a :: vs) C hS hR⟩ rfl (by rw [List.length_map]; exact hn) hL.1 (by show (vs.reverse ++ .ref a :: st).map (hk_cv G) = _; rw [List.map_append, List.map_reverse]; rfl) (by show 2 * 0 + _ ≤ 8; rw [hk_cats]; omega) hd ⟨by omega, by omega⟩
theorem hk_recv {s : State} {H : Heap} {U : Heap} {a ci : Nat} {fs : List Value} {r : vw_C} (hK : hk_K G s U) (hR : hk_R G H h) (hc : hk_cl[ci]? = some r) (ha : h.2 a = some (.inr (ci, fs))) : ∃ cell : Cell, H[hk_r G a]? = some cell ∧ cell.vm.isStatics = false ∧ s.vm.findClass r.1 = some cell.cls := by
  obtain ⟨q', h1, cell, g1, g2, g3, -⟩ := hR.2.2.2 a _ ha
  exact ⟨cell, g1, by rw [g3]; rfl, by rw [g2]; exact (hK.1.1 ci r hc).2.1⟩
/-- a method that the receiver's own class has (a private one, too) -/
theorem hs_callV {idx n a ci : Nat} {vs fs : List Value} {r : vw_C} (hd : decode M.2.1 pc = .ok (.invokevirtual idx, 3)) (hok : hk_ok M' n) (hh : M'.2.2.2.2 = []) (hw : Cond.methodLink M.1.cls idx M'.1 ∈ hk_ws) (hin : Cond.instanceMethod M'.1 ∈ hk_ws) (hc : hk_cl[ci]? = some r) (hsel : Cond.selects r.1 M'.1 M'.1 ∈ hk_ws) (ha : h.2 a = some (.inr (ci, fs))) (hn : vs.length = n) (hcat : (st.map (fun v => v.category)).sum ≤ 8)
    (hE : hk_E G M' d c1 s1 (.ref a :: vs) h Qe) (hno : ∀ E h', ¬ Qe (.inr E) h') (kk : ∀ v h', Qe (.inl v) h' → hk_S G M (d + 1) c2 s2 (pc + 3) L (v.toList ++ st) h' Q) : hk_S G M (d + 1) (c1 + c2) (s1 + s2) pc L (vs.reverse ++ .ref a :: st) h Q := by
  intro p l e R s m args below meth c H locs cells slots mc ms ls C hS hR hL hb
  have hts := C.2.2.2.2.2.1
  refine hk_back (g := F0 m pc ls ((vs.reverse ++ .ref a :: st).map (hk_cv G))) rfl C hS hL hb (a := ((.ref a :: vs).map (hk_cv G)).toArray) ?_ kk
  exact va_runV (As := vs.map (hk_cv G)) (b := hk_r G a) (C := r.1) (hk_fix C) (hk_metr C.2.2.2.2.2.2.2.2.2.2.1 hok hE hno) ⟨hk_callB C hok hh hw, hts _ hin, hts _ hsel⟩ ⟨hk_blind, hk_recv C.2.2.2.2.2.2.2.2.2.1 hR hc ha, hk_pre (vs := .ref a :: vs) C hS hR⟩ rfl (by rw [List.length_map]; exact hn) hL.1 (by show (vs.reverse ++ .ref a :: st).map (hk_cv G) = _; rw [List.map_append, List.map_reverse]; rfl) (by show 2 * 0 + _ ≤ 8; rw [hk_cats]; omega) hd ⟨by omega, by omega⟩
theorem hk_cu {p : Program} {l : Launch} {R : Room} {s : State} {m : MethodId} {args : Array Value} {meth : Method} {c : Code} {n idx : Nat} {x : MethodName} {owner Cn : String} (C : hk_Cx G M (d + 1) p l R s m args meth c) (hok : hk_ok M' n) (hh : M'.2.2.2.2 = []) (hdx : x.desc = M'.1.desc) (hw : Cond.methodLink M.1.cls idx x ∈ hk_ws ∧ Cond.sameMethod x.cls owner x.name x.desc ∈ hk_ws ∧ Cond.selects Cn x M'.1 ∈ hk_ws ∧ Cond.instanceMethod M'.1 ∈ hk_ws) (ho : owner ≠ "java/lang/invoke/MethodHandle" ∧ owner ≠ "java/lang/invoke/VarHandle") (hde : (Cond.instanceMethod ⟨owner, x.name, x.desc⟩ ∈ hk_ws ∧ ∃ b0 m0 r0, Cond.code ⟨owner, x.name, x.desc⟩ b0 m0 r0 ∈ hk_ws) ∨ (⟨owner, x.name, x.desc⟩ : MethodName) ∈ hk_decl) : va_CU R s args M.1.cls Cn owner idx x M'.1 M'.2.1 M'.2.2.1 M'.2.2.2.1 (hk_cw M' :: hk_ws) (hk_room d c1 s1) c1 s1 n := by
  have hts := C.2.2.2.2.2.1
  have hfr := C.2.2.2.2.2.2.2.2.2.2.2.1
  have hlo := C.2.2.2.2.2.2.2.2.2.2.2.2.1
  have e1 : hk_cw M' = .code M'.1 M'.2.1 M'.2.2.1 M'.2.2.2.1 := if_pos hh
  obtain ⟨o1, o2, o3, o4, o5, o6⟩ := id hok
  refine ⟨⟨rfl, rfl, hk_fr1 hfr, hk_lo1 o4 hlo, fun w hw a' U hW => ?_, by rw [e1]; exact List.mem_cons_self⟩, hts _ (by rw [← e1]; exact o6), hts _ o5, ho, by rw [hdx]; exact hk_len hok, hts _ hw.1, hts _ hw.2.1, ?_, hts _ hw.2.2.1, hts _ hw.2.2.2⟩
  · rcases List.mem_cons.mp hw with rfl | hw
    · exact hk_word hts o6 a' U hW
    · exact hk_word hts hw a' U hW
  · rcases hde with ⟨h1, b0, m0, r0, h2⟩ | h1
    · exact va_Decl.of (hts _ h1) (hts _ h2)
    · exact va_Decl.abs (C.2.2.2.2.2.2.2.2.2.1.2.2.2.2.2.2.1 _ h1)
/-- a method by the receiver's class: inherited or overriding -/
theorem hs_callU {idx n a ci : Nat} {vs fs : List Value} {r : vw_C} {x : MethodName} {owner : String} (hd : decode M.2.1 pc = .ok (.invokevirtual idx, 3)) (hok : hk_ok M' n) (hh : M'.2.2.2.2 = []) (hdx : x.desc = M'.1.desc) (hc : hk_cl[ci]? = some r) (hw : Cond.methodLink M.1.cls idx x ∈ hk_ws ∧ Cond.sameMethod x.cls owner x.name x.desc ∈ hk_ws ∧ Cond.selects r.1 x M'.1 ∈ hk_ws ∧ Cond.instanceMethod M'.1 ∈ hk_ws) (ho : owner ≠ "java/lang/invoke/MethodHandle" ∧ owner ≠ "java/lang/invoke/VarHandle") (hde : (Cond.instanceMethod ⟨owner, x.name, x.desc⟩ ∈ hk_ws ∧ ∃ b0 m0 r0, Cond.code ⟨owner, x.name, x.desc⟩ b0 m0 r0 ∈ hk_ws) ∨ (⟨owner, x.name, x.desc⟩ : MethodName) ∈ hk_decl) (ha : h.2 a = some (.inr (ci, fs))) (hn : vs.length = n) (hcat : (st.map (fun v => v.category)).sum ≤ 8)
    (hE : hk_E G M' d c1 s1 (.ref a :: vs) h Qe) (hno : ∀ E h', ¬ Qe (.inr E) h') (kk : ∀ v h', Qe (.inl v) h' → hk_S G M (d + 1) c2 s2 (pc + 3) L (v.toList ++ st) h' Q) : hk_S G M (d + 1) (c1 + c2) (s1 + s2) pc L (vs.reverse ++ .ref a :: st) h Q := by
  intro p l e R s m args below meth c H locs cells slots mc ms ls C hS hR hL hb
  refine hk_back (g := F0 m pc ls ((vs.reverse ++ .ref a :: st).map (hk_cv G))) rfl C hS hL hb (a := ((.ref a :: vs).map (hk_cv G)).toArray) ?_ kk
  exact va_runU (As := vs.map (hk_cv G)) (b := hk_r G a) (C := r.1) (hk_fix C) (hk_metr C.2.2.2.2.2.2.2.2.2.2.1 hok hE hno) (hk_cu C hok hh hdx hw ho hde) ⟨hk_blind, hk_recv C.2.2.2.2.2.2.2.2.2.1 hR hc ha, hk_pre (vs := .ref a :: vs) C hS hR⟩ rfl (by rw [List.length_map]; exact hn) hL.1 (by show (vs.reverse ++ .ref a :: st).map (hk_cv G) = _; rw [List.map_append, List.map_reverse]; rfl) (by show 2 * 0 + _ ≤ 8; rw [hk_cats]; omega) hd ⟨by omega, by omega⟩
/-- super.method() -/
theorem hs_callSU {idx n a ci : Nat} {vs fs : List Value} {r : vw_C} (hd : decode M.2.1 pc = .ok (.invokespecial idx, 3)) (hok : hk_ok M' n) (hh : M'.2.2.2.2 = []) (hni : M'.1.name ≠ "<init>") (hw : Cond.methodLink M.1.cls idx M'.1 ∈ hk_ws ∧ Cond.sameMethod M'.1.cls M'.1.cls M'.1.name M'.1.desc ∈ hk_ws ∧ Cond.superclass M.1.cls M'.1.cls ∈ hk_ws ∧ Cond.instanceMethod M'.1 ∈ hk_ws) (hc : hk_cl[ci]? = some r) (ha : h.2 a = some (.inr (ci, fs))) (hn : vs.length = n) (hcat : (st.map (fun v => v.category)).sum ≤ 8)
    (hE : hk_E G M' d c1 s1 (.ref a :: vs) h Qe) (hno : ∀ E h', ¬ Qe (.inr E) h') (kk : ∀ v h', Qe (.inl v) h' → hk_S G M (d + 1) c2 s2 (pc + 3) L (v.toList ++ st) h' Q) : hk_S G M (d + 1) (c1 + c2) (s1 + s2) pc L (vs.reverse ++ .ref a :: st) h Q := by
  intro p l e R s m args below meth c H locs cells slots mc ms ls C hS hR hL hb
  have hts := C.2.2.2.2.2.1
  have hB := hk_callB (c1 := c1) (s1 := s1) C hok hh hw.1
  refine hk_back (g := F0 m pc ls ((vs.reverse ++ .ref a :: st).map (hk_cv G))) rfl C hS hL hb (a := ((.ref a :: vs).map (hk_cv G)).toArray) ?_ kk
  refine va_runSU (n := n) (As := vs.map (hk_cv G)) (b := hk_r G a) (C := r.1) (bytes := M'.2.1) (maxL := M'.2.2.1) (ret := M'.2.2.2.1) (cC := G.1.1 ci) (C.2.2.2.2.2.2.2.2.2.1.1.1 ci r hc).2 (hk_fix C) (hk_metr C.2.2.2.2.2.2.2.2.2.2.1 hok hE hno) ?_ ⟨hk_blind, hk_recv C.2.2.2.2.2.2.2.2.2.1 hR hc ha, hk_pre (vs := .ref a :: vs) C hS hR⟩ rfl (by rw [List.length_map]; exact hn) hL.1 (by show (vs.reverse ++ .ref a :: st).map (hk_cv G) = _; rw [List.map_append, List.map_reverse]; rfl) (by show 2 * 0 + _ ≤ 8; rw [hk_cats]; omega) hd ⟨by omega, by omega⟩
  obtain ⟨b1, b2, b3, b4, b5, b6, b7, b8, b9, b10, b11⟩ := hB
  exact ⟨⟨b1, b2, b3, b4, b5, b6⟩, b11, hts _ hw.2.1, hts _ hw.2.2.1, hts _ hw.2.2.2, b8, b7, hni, b10⟩
end HC
end
section
section HT0
variable {p : Program} {l : Launch} {e : Env} {R : Room} {s : State} {m : MethodId} {args : Array Value} {below : List Frame} {meth : Method} {c : Code} {H : Heap} {locs : List Loc} {cells slots : Nat} {Q : State → Prop}
variable {mc ms : Nat} {free : Addr → Prop} {A0 A1 : Nat → Prop} {H0 : Heap} {a : Array Value} {ls : Array Slot} {st0 rest : List Value}
variable {Qc : Array Value → State → Outcome → State → Prop} {XC : String → State → State → Prop}
theorem hk_throwS {cc : ByteArray} {pc : Nat} (hexec : p.tables.exec = Jvm.exec) (hb : c.code = cc) (hl : l.stackTraces = false) {own cls text : String} {names : List String} {ik is ic mc ms sa : Nat} {A : Nat → Prop}
    (hown : s.vm.findClass own = some m.cls) (hcls : Bundle.fit cls = true) (hnames : ∀ n ∈ names, Bundle.fit n = true)
    (hk : (Cond.classLink own ik cls).before args s = true) (hini : (Cond.initialized cls).before args s = true) (hstr : vk_R own is text sa s) (hat : ∀ w ∈ vx_atS own ic cls names, w.before args s = true)
    (hgood : ∀ w ∈ Cond.classLink own ik cls :: Cond.initialized cls :: vx_atS own ic cls names, vx_ot w = true)
    (hU : vx_Zq Bundle.tN "UNASSIGNED_STACK" Bundle.steD A s s.heap) (hN : vx_Zq Bundle.tN "SUPPRESSED_SENTINEL" Bundle.listD A s s.heap) (hS : va_S A s.heap H locs) (hsize : ls.size = c.maxLocals)
    (d0 : decode cc pc = .ok (.new ik, 3)) (d3 : decode cc (pc + 3) = .ok (.dup, 1)) (d4 : decode cc (pc + 4) = .ok (.ldc is, 2)) (d6 : decode cc (pc + 6) = .ok (.invokespecial ic, 3)) (d9 : decode cc (pc + 9) = .ok (.athrow, 1))
    (hout : ∀ x ∈ c.exceptionTable.toList, covers x (pc + 9) = false)
    (hRframes : names.length + 3 < R.frames) (hRlocals : (rest.map fun v => v.category).sum + (13 * (names.length + 1) + 43) ≤ R.locals) (hRcells : cells + 1 ≤ R.cells) (hRslots : slots + 6 ≤ R.slots) (hlocks : meth.locks = false)
    (hx : ∀ t : State, s.vm.Alike t.vm → t.heap.size = H.size + 1 → (∀ q : Nat, q < H.size → t.heap[q]? = H[q]?) → XC cls s t)
    (hf : ∀ z ∈ locs, free z.base) (hc : cells + 1 ≤ mc) (hs : slots + 6 ≤ ms) :
    W p l e R s m args below meth c H locs cells slots (vx_MQ below Qc XC args s mc ms free) (F0 m pc ls rest) := by
  intro T hT X
  have htr : e.platform.stackTraces = false := (show e.platform.stackTraces = l.stackTraces by rw [X.admits.platform]).trans hl
  have Y := vx_rebase X (R' := { frames := R.frames, locals := R.locals, cells := 1, slots := 6 }) (Nat.le_refl _) (Nat.le_refl _) hRcells hRslots
  obtain ⟨s', hA⟩ : ∃ z, z = (T.setVm s.vm).setFrames (.invoking m args :: below) := ⟨_, rfl⟩
  rw [← hA] at Y
  have hvm : s'.vm = s.vm := by rw [hA]; rfl
  have hhp : s'.heap = H := by rw [hA]; exact hT
  have hW0 : s.WarmedH s'.vm := by rw [hvm]; exact State.WarmedH.refl s
  have hat' : ∀ w ∈ vx_atS own ic cls names, w.before args s' = true := fun w hw => vx_ot_at hW0 hvm.symm (hgood w (List.mem_cons_of_mem _ (List.mem_cons_of_mem _ hw))) (hat w hw)
  have hk' : (Cond.classLink own ik cls).before args s' = true := vx_ot_at hW0 hvm.symm (hgood _ List.mem_cons_self) hk
  have hini' : (Cond.initialized cls).before args s' = true := vx_ot_at hW0 hvm.symm (hgood _ (List.mem_cons_of_mem _ List.mem_cons_self)) hini
  have hU' : vx_Zq Bundle.tN "UNASSIGNED_STACK" Bundle.steD A s' s'.heap := by rw [hhp]; exact vx_Zq.moved hW0.alike (hU.kept hS.2.1)
  have hN' : vx_Zq Bundle.tN "SUPPRESSED_SENTINEL" Bundle.listD A s' s'.heap := by rw [hhp]; exact vx_Zq.moved hW0.alike (hN.kept hS.2.1)
  have h : ∀ w ∈ Bundle.ownAtoms own ic cls names, w.before args s' = true := vx_own hat' (vx_isRefq hU'.1) (vx_isRefq hN'.1) hU'.2.word hN'.2.word
  have hown' : s'.vm.findClass own = some m.cls := by rw [hvm]; exact hown
  have hins : (Cond.instantiable cls 6).before args s' = true := h _ (by simp [Bundle.ownAtoms])
  obtain ⟨vm₁, cX, kX, hfX, hkX, -, -, X₁, st1⟩ := Y.newCold hexec (own := own) (C := cls) (index := ik) (n := 6) hown' hk' hins hini'
    (g := F0 m pc ls rest) rfl (by rw [hb]; exact d0) (Nat.le_refl _) (Nat.le_refl _)
  generalize hT1 : (T.setVm vm₁).pushCell { cls := cX, slots := kX.instanceTypes.map defaultValue, vm := .none } = T1 at X₁ st1
  have hcat : (Value.ref T.heap.size).category = 1 := rfl
  have hcellA : T1.heap[T.heap.size]? = some (freshCell cX kX) := by rw [← hT1]; exact State.heap_pushCell_size _ _
  have d3' : decode c.code (pc + 3) = .ok (.dup, 1) := by rw [hb]; exact d3
  have d4' : decode c.code (pc + 4) = .ok (.ldc is, 2) := by rw [hb]; exact d4
  have hstr' : vk_R own is text sa s' := vk_R.warm hW0 hstr
  obtain ⟨U, hsteps, hrun, hend, hW, hsame, ce, hce, hO⟩ := X₁.ctorThrowS hexec htr (own := own) (cls := cls) (names := names) (ic := ic) hown' hcls hnames h (fun x hx => nomatch hx) hfX hkX hcellA (by rw [hhp, hT]; exact Nat.le_refl _) (msg := .ref sa) rfl
    (g := { method := m, pc := pc + 6, locals := ls, stack := .ref sa :: .ref T.heap.size :: .ref T.heap.size :: rest, locked := none }) rfl hsize rfl rfl (rest := rest) rfl
    (by rw [hb]; exact d6) (by rw [hb]; exact d9) hout hRframes (by simp only [List.map_cons, List.sum_cons, hcat]; omega) hlocks
  obtain ⟨f1, f2⟩ := vx_frame hsame
  rw [hhp] at f1 f2
  have f3 : U.heap.size = H.size + 1 := by
    have g1 : T.heap.size < U.heap.size := (Array.getElem?_eq_some_iff.mp hce).1
    have g2 : U.heap.size ≤ s'.heap.size + (0 + 1) := hsame.2.2.1
    rw [hhp] at g2
    rw [hT] at g1
    omega
  have hWs : s.WarmedH U.vm := State.WarmedH.trans hW0 hW
  have hcl : s.vm.findClass cls = some ce.cls := by
    have h9 := hO.cls
    rw [hvm] at h9
    exact h9
  have hall : s.sameButNew ({ U with vm := s.vm } : State) locs mc ms := by
    subst hA
    obtain ⟨e1, e2⟩ := hsame
    rw [State.setFrames_setFrames] at e1
    have h2 : (T.setVm s.vm).sameButNew ({ U with vm := s.vm } : State) [] (0 + 1) (0 + 6) := ⟨e1, e2⟩
    have h3 := X.same.trans h2
    rw [List.append_nil] at h3
    exact h3.mono hc hs
  refine ⟨U, ?_, .threw T.heap.size, hrun, hend, Or.inr ⟨T.heap.size, rfl, cls, ce, locs, hx U hWs.alike f3 (fun q hq => f2 q hq (fun z hz => nomatch hz)), hce, hO.vm, hcl, hWs, hall, hf⟩⟩
  refine st1 _ ?_
  show Steps p.tables e below (T1.setTop { method := m, pc := pc + 3, locals := ls, stack := .ref T.heap.size :: rest, locked := none }) _
  jvm_step X₁.here [X₁.here.top, hexec, d3', Value.category]
  exact X₁.ldcString hexec (own := own) (text := text) (index := is) (a := sa) hown' hstr'.1 hstr'.2
    (g := { method := m, pc := pc + 4, locals := ls, stack := .ref T.heap.size :: .ref T.heap.size :: rest, locked := none }) rfl d4' _ hsteps
theorem hk_throwSW {cc : ByteArray} {pc : Nat} (hexec : p.tables.exec = Jvm.exec) (hb : c.code = cc) (hl : l.stackTraces = false) {own cls text : String} {names : List String} {ik is ic mc ms sa : Nat} {A : Nat → Prop}
    (hown : s.vm.findClass own = some m.cls) (hcls : Bundle.fit cls = true) (hnames : ∀ n ∈ names, Bundle.fit n = true)
    (hk : (Cond.classLink own ik cls).before args s = true) (hini : (Cond.initialized cls).before args s = true) (hstr : vk_R own is text sa s) (hat : ∀ w ∈ vx_atS own ic cls names, w.before args s = true)
    (hgood : ∀ w ∈ Cond.classLink own ik cls :: Cond.initialized cls :: vx_atS own ic cls names, vx_ot w = true)
    (hU : vx_Zq Bundle.tN "UNASSIGNED_STACK" Bundle.steD A s s.heap) (hN : vx_Zq Bundle.tN "SUPPRESSED_SENTINEL" Bundle.listD A s s.heap) (hS : va_S A s.heap H locs) (hsize : ls.size = c.maxLocals)
    (d0 : decode cc pc = .ok (.new ik, 3)) (d3 : decode cc (pc + 3) = .ok (.dup, 1)) (d4 : decode cc (pc + 4) = .ok (.ldc_w is, 3)) (d7 : decode cc (pc + 7) = .ok (.invokespecial ic, 3)) (d10 : decode cc (pc + 10) = .ok (.athrow, 1))
    (hout : ∀ x ∈ c.exceptionTable.toList, covers x (pc + 10) = false)
    (hRframes : names.length + 3 < R.frames) (hRlocals : (rest.map fun v => v.category).sum + (13 * (names.length + 1) + 43) ≤ R.locals) (hRcells : cells + 1 ≤ R.cells) (hRslots : slots + 6 ≤ R.slots) (hlocks : meth.locks = false)
    (hx : ∀ t : State, s.vm.Alike t.vm → t.heap.size = H.size + 1 → (∀ q : Nat, q < H.size → t.heap[q]? = H[q]?) → XC cls s t)
    (hf : ∀ z ∈ locs, free z.base) (hc : cells + 1 ≤ mc) (hs : slots + 6 ≤ ms) :
    W p l e R s m args below meth c H locs cells slots (vx_MQ below Qc XC args s mc ms free) (F0 m pc ls rest) := by
  intro T hT X
  have htr : e.platform.stackTraces = false := (show e.platform.stackTraces = l.stackTraces by rw [X.admits.platform]).trans hl
  have Y := vx_rebase X (R' := { frames := R.frames, locals := R.locals, cells := 1, slots := 6 }) (Nat.le_refl _) (Nat.le_refl _) hRcells hRslots
  obtain ⟨s', hA⟩ : ∃ z, z = (T.setVm s.vm).setFrames (.invoking m args :: below) := ⟨_, rfl⟩
  rw [← hA] at Y
  have hvm : s'.vm = s.vm := by rw [hA]; rfl
  have hhp : s'.heap = H := by rw [hA]; exact hT
  have hW0 : s.WarmedH s'.vm := by rw [hvm]; exact State.WarmedH.refl s
  have hat' : ∀ w ∈ vx_atS own ic cls names, w.before args s' = true := fun w hw => vx_ot_at hW0 hvm.symm (hgood w (List.mem_cons_of_mem _ (List.mem_cons_of_mem _ hw))) (hat w hw)
  have hk' : (Cond.classLink own ik cls).before args s' = true := vx_ot_at hW0 hvm.symm (hgood _ List.mem_cons_self) hk
  have hini' : (Cond.initialized cls).before args s' = true := vx_ot_at hW0 hvm.symm (hgood _ (List.mem_cons_of_mem _ List.mem_cons_self)) hini
  have hU' : vx_Zq Bundle.tN "UNASSIGNED_STACK" Bundle.steD A s' s'.heap := by rw [hhp]; exact vx_Zq.moved hW0.alike (hU.kept hS.2.1)
  have hN' : vx_Zq Bundle.tN "SUPPRESSED_SENTINEL" Bundle.listD A s' s'.heap := by rw [hhp]; exact vx_Zq.moved hW0.alike (hN.kept hS.2.1)
  have h : ∀ w ∈ Bundle.ownAtoms own ic cls names, w.before args s' = true := vx_own hat' (vx_isRefq hU'.1) (vx_isRefq hN'.1) hU'.2.word hN'.2.word
  have hown' : s'.vm.findClass own = some m.cls := by rw [hvm]; exact hown
  have hins : (Cond.instantiable cls 6).before args s' = true := h _ (by simp [Bundle.ownAtoms])
  obtain ⟨vm₁, cX, kX, hfX, hkX, -, -, X₁, st1⟩ := Y.newCold hexec (own := own) (C := cls) (index := ik) (n := 6) hown' hk' hins hini'
    (g := F0 m pc ls rest) rfl (by rw [hb]; exact d0) (Nat.le_refl _) (Nat.le_refl _)
  generalize hT1 : (T.setVm vm₁).pushCell { cls := cX, slots := kX.instanceTypes.map defaultValue, vm := .none } = T1 at X₁ st1
  have hcat : (Value.ref T.heap.size).category = 1 := rfl
  have hcellA : T1.heap[T.heap.size]? = some (freshCell cX kX) := by rw [← hT1]; exact State.heap_pushCell_size _ _
  have d3' : decode c.code (pc + 3) = .ok (.dup, 1) := by rw [hb]; exact d3
  have d4' : decode c.code (pc + 4) = .ok (.ldc_w is, 3) := by rw [hb]; exact d4
  have hstr' : vk_R own is text sa s' := vk_R.warm hW0 hstr
  obtain ⟨U, hsteps, hrun, hend, hW, hsame, ce, hce, hO⟩ := X₁.ctorThrowS hexec htr (own := own) (cls := cls) (names := names) (ic := ic) hown' hcls hnames h (fun x hx => nomatch hx) hfX hkX hcellA (by rw [hhp, hT]; exact Nat.le_refl _) (msg := .ref sa) rfl
    (g := { method := m, pc := pc + 7, locals := ls, stack := .ref sa :: .ref T.heap.size :: .ref T.heap.size :: rest, locked := none }) rfl hsize rfl rfl (rest := rest) rfl
    (by rw [hb]; exact d7) (by rw [hb]; exact d10) hout hRframes (by simp only [List.map_cons, List.sum_cons, hcat]; omega) hlocks
  obtain ⟨f1, f2⟩ := vx_frame hsame
  rw [hhp] at f1 f2
  have f3 : U.heap.size = H.size + 1 := by
    have g1 : T.heap.size < U.heap.size := (Array.getElem?_eq_some_iff.mp hce).1
    have g2 : U.heap.size ≤ s'.heap.size + (0 + 1) := hsame.2.2.1
    rw [hhp] at g2
    rw [hT] at g1
    omega
  have hWs : s.WarmedH U.vm := State.WarmedH.trans hW0 hW
  have hcl : s.vm.findClass cls = some ce.cls := by
    have h9 := hO.cls
    rw [hvm] at h9
    exact h9
  have hall : s.sameButNew ({ U with vm := s.vm } : State) locs mc ms := by
    subst hA
    obtain ⟨e1, e2⟩ := hsame
    rw [State.setFrames_setFrames] at e1
    have h2 : (T.setVm s.vm).sameButNew ({ U with vm := s.vm } : State) [] (0 + 1) (0 + 6) := ⟨e1, e2⟩
    have h3 := X.same.trans h2
    rw [List.append_nil] at h3
    exact h3.mono hc hs
  refine ⟨U, ?_, .threw T.heap.size, hrun, hend, Or.inr ⟨T.heap.size, rfl, cls, ce, locs, hx U hWs.alike f3 (fun q hq => f2 q hq (fun z hz => nomatch hz)), hce, hO.vm, hcl, hWs, hall, hf⟩⟩
  refine st1 _ ?_
  show Steps p.tables e below (T1.setTop { method := m, pc := pc + 3, locals := ls, stack := .ref T.heap.size :: rest, locked := none }) _
  jvm_step X₁.here [X₁.here.top, hexec, d3', Value.category]
  exact X₁.ldcStringW hexec (own := own) (text := text) (index := is) (a := sa) hown' hstr'.1 hstr'.2
    (g := { method := m, pc := pc + 4, locals := ls, stack := .ref T.heap.size :: .ref T.heap.size :: rest, locked := none }) rfl d4' _ hsteps
end HT0
def hk_B : List Cond := hk_cast.map (fun q => .castable q.1 q.2) ++ hk_decl.map (fun x => .declares x)
def hk_chain : List String := ["java/lang/RuntimeException", "java/lang/Exception"]
/-- what the tables say where the class own throws a new cls (pool's entries: the class, the constructor) -/
def hk_thr (own : String) (ik ic : Nat) (cls : String) : Prop := Bundle.fit cls = true ∧ (∀ n ∈ hk_chain, Bundle.fit n = true) ∧ Cond.classLink own ik cls ∈ hk_ws ∧ Cond.initialized cls ∈ hk_ws ∧ (∀ w ∈ (vx_atS own ic cls hk_chain).filter goodWord, w ∈ hk_ws) ∧ (∀ w ∈ (vx_atS own ic cls hk_chain).filter (fun w => !goodWord w), w ∈ hk_B) ∧ (∀ w ∈ Cond.classLink own ik cls :: Cond.initialized cls :: vx_atS own ic cls hk_chain, vx_ot w = true)
set_option maxRecDepth 10000 in
theorem hk_lo2 {d r : Nat} (h : 64 * d + 400 ≤ r) : (([] : List Value).map fun v => v.category).sum + (13 * (hk_chain.length + 1) + 43) ≤ r := by
  show 0 + (13 * (2 + 1) + 43) ≤ r
  omega
section HT
variable {G : hk_G} {M M' : hk_M} {d cb sb c1 s1 c2 s2 pc : Nat} {L L' : List (Option Value)} {st : List Value} {h : hk_H} {Q Qe : hk_O → hk_H → Prop}
theorem hk_bs {s : State} {H : Heap} {args : Array Value} (hK : hk_K G s H) : ∀ w ∈ hk_B, w.before args s = true := by
  intro w hw
  rcases List.mem_append.mp hw with hw | hw
  · obtain ⟨q, hq, rfl⟩ := List.mem_map.mp hw
    exact va_Nw.use rfl (hK.2.2.2.2.2.1 q hq)
  · obtain ⟨x, hx, rfl⟩ := List.mem_map.mp hw
    exact va_Nw.use rfl (hK.2.2.2.2.2.2.1 x hx)
theorem hk_covers {pc : Nat} (h : ∀ q ∈ M.2.2.2.2, ¬ (q.1 ≤ pc ∧ pc < q.2.1)) {c : Code} (ht : c.exceptionTable.toList = tableOf M.2.2.2.2) : ∀ x ∈ c.exceptionTable.toList, covers x pc = false := by
  intro x hx
  rw [ht] at hx
  obtain ⟨q, hq, rfl⟩ := List.mem_map.mp hx
  have := h q hq
  simp only [covers, Bool.and_eq_false_iff, decide_eq_false_iff_not]
  omega
theorem hs_throw {ik is ic : Nat} {cls text : String} (d0 : decode M.2.1 pc = .ok (.new ik, 3)) (d3 : decode M.2.1 (pc + 3) = .ok (.dup, 1)) (d4 : decode M.2.1 (pc + 4) = .ok (.ldc is, 2)) (d6 : decode M.2.1 (pc + 6) = .ok (.invokespecial ic, 3)) (d9 : decode M.2.1 (pc + 9) = .ok (.athrow, 1)) (hh : M.2.2.2.2 = []) (ht : hk_thr M.1.cls ik ic cls) (hs : (M.1.cls, is, text) ∈ hk_strs) (hst : st = []) (hq : Q (.inr cls) (h.1 + 1, h.2)) : hk_S G M d (cb + 1) (sb + 6) pc L st h Q := by
  intro p l e R s m args below meth c H locs cells slots mc ms ls C hS hR hL hb
  subst hst
  obtain ⟨t1, t2, t3, t4, t5, t6, t7⟩ := ht
  have hts := C.2.2.2.2.2.1
  have hK := C.2.2.2.2.2.2.2.2.2.1
  have hfr := C.2.2.2.2.2.2.2.2.2.2.2.1
  have hlo := C.2.2.2.2.2.2.2.2.2.2.2.2.1
  obtain ⟨sa, hsa⟩ := hK.2.2.2.2.1 _ hs
  have hf0 : hk_chain.length + 3 < R.frames := by show 2 + 3 < _; omega
  refine hk_throwS (names := hk_chain) (sa := sa) C.1 C.2.1 C.2.2.2.2.2.2.2.2.2.2.1 C.2.2.2.2.1 t1 t2 (hts _ t3) (hts _ t4) hsa (vx_hat (fun w hw => hts w (t5 w hw)) t6 (hk_bs hK)) t7 hK.2.1 hK.2.2.1 hS (hL.1.trans C.2.2.2.1.symm) d0 d3 d4 d6 d9 (hk_covers (by rw [hh]; exact fun q hq => by cases hq) C.2.2.2.2.2.2.2.2.1) hf0 (hk_lo2 hlo) (by omega) (by omega) C.2.2.2.2.2.2.1 ?_ hS.2.2 (by omega) (by omega)
  intro t ha hz ho
  refine ⟨(h.1 + 1, h.2), hq, ⟨?_, ?_, hR.2.2.1, fun a c9 ha9 => ?_⟩, ⟨?_, fun q g1 g2 => ?_⟩⟩
  · rw [hz, hR.1]
    have := hR.2.1
    show _ = G.2.2.2 + (h.1 + 1 - 4)
    omega
  · have := hR.2.1
    show 4 ≤ h.1 + 1
    omega
  · have h5 := hR.2.2.2 a c9 ha9
    exact h5.kept (ho _ h5.lt)
  · rw [hz]
    have := hS.1
    omega
  · rw [ho q (Nat.lt_of_lt_of_le g1 hS.1)]
    exact hS.2.1 q g1 g2
theorem hs_throwW {ik is ic : Nat} {cls text : String} (d0 : decode M.2.1 pc = .ok (.new ik, 3)) (d3 : decode M.2.1 (pc + 3) = .ok (.dup, 1)) (d4 : decode M.2.1 (pc + 4) = .ok (.ldc_w is, 3)) (d6 : decode M.2.1 (pc + 7) = .ok (.invokespecial ic, 3)) (d9 : decode M.2.1 (pc + 10) = .ok (.athrow, 1)) (hh : M.2.2.2.2 = []) (ht : hk_thr M.1.cls ik ic cls) (hs : (M.1.cls, is, text) ∈ hk_strs) (hst : st = []) (hq : Q (.inr cls) (h.1 + 1, h.2)) : hk_S G M d (cb + 1) (sb + 6) pc L st h Q := by
  intro p l e R s m args below meth c H locs cells slots mc ms ls C hS hR hL hb
  subst hst
  obtain ⟨t1, t2, t3, t4, t5, t6, t7⟩ := ht
  have hts := C.2.2.2.2.2.1
  have hK := C.2.2.2.2.2.2.2.2.2.1
  have hfr := C.2.2.2.2.2.2.2.2.2.2.2.1
  have hlo := C.2.2.2.2.2.2.2.2.2.2.2.2.1
  obtain ⟨sa, hsa⟩ := hK.2.2.2.2.1 _ hs
  have hf0 : hk_chain.length + 3 < R.frames := by show 2 + 3 < _; omega
  refine hk_throwSW (names := hk_chain) (sa := sa) C.1 C.2.1 C.2.2.2.2.2.2.2.2.2.2.1 C.2.2.2.2.1 t1 t2 (hts _ t3) (hts _ t4) hsa (vx_hat (fun w hw => hts w (t5 w hw)) t6 (hk_bs hK)) t7 hK.2.1 hK.2.2.1 hS (hL.1.trans C.2.2.2.1.symm) d0 d3 d4 d6 d9 (hk_covers (by rw [hh]; exact fun q hq => by cases hq) C.2.2.2.2.2.2.2.2.1) hf0 (hk_lo2 hlo) (by omega) (by omega) C.2.2.2.2.2.2.1 ?_ hS.2.2 (by omega) (by omega)
  intro t ha hz ho
  refine ⟨(h.1 + 1, h.2), hq, ⟨?_, ?_, hR.2.2.1, fun a c9 ha9 => ?_⟩, ⟨?_, fun q g1 g2 => ?_⟩⟩
  · rw [hz, hR.1]
    have := hR.2.1
    show _ = G.2.2.2 + (h.1 + 1 - 4)
    omega
  · have := hR.2.1
    show 4 ≤ h.1 + 1
    omega
  · have h5 := hR.2.2.2 a c9 ha9
    exact h5.kept (ho _ h5.lt)
  · rw [hz]
    have := hS.1
    omega
  · rw [ho q (Nat.lt_of_lt_of_le g1 hS.1)]
    exact hS.2.1 q g1 g2
/-- the thrown object goes to a local that is not looked at again -/
theorem hk_L.storeQ {ls : Array Slot} {n i : Nat} {q : Nat} (h : hk_L G ls n L) (hi : i < n) : ∃ ls', storeLocals ls i (.ref q) = some ls' ∧ hk_L G ls' n ((hk_kill L i).set i none) := by
  obtain ⟨ls', e, h1, h2, h3⟩ := lv_store1 (v := .ref q) h.has hi rfl
  refine ⟨ls', e, h1, h2, fun k w hw => ?_⟩
  by_cases e1 : k = i
  · subst e1
    by_cases hlen : k < (hk_kill L k).length
    · rw [List.getElem?_set_self hlen] at hw
      cases hw
    · have : ((hk_kill L k).set k none)[k]? = none := by simp; omega
      rw [this] at hw
      cases hw
  · rw [List.getElem?_set_ne (Ne.symm e1)] at hw
    obtain ⟨g1, g2⟩ := hk_kill_of hw
    refine h3 (k, hk_cv G w) (List.mem_cons_of_mem _ (List.mem_filter.mpr ⟨hk_as_mem g1, ?_⟩))
    simp only [Bool.and_eq_true, Bool.not_eq_true', beq_eq_false_iff_ne, ne_eq, Bool.and_eq_false_iff, hk_cat]
    refine ⟨e1, ?_⟩
    by_cases e2 : k + 1 = i
    · exact Or.inr fun q => g2 ⟨e2, q⟩
    · exact Or.inl e2
/-- who catches: the first row of the method's table that covers pc and takes the class E has its handler at hp, which stores the object in local i -/
def hk_ct (M : hk_M) (pc : Nat) (E : String) (hp i : Nat) : Prop := ∃ (pre : List (Nat × Nat × Nat × Nat)) (x : Nat × Nat × Nat × Nat) (suf : List (Nat × Nat × Nat × Nat)), M.2.2.2.2 = pre ++ x :: suf ∧ (∀ z ∈ pre, ¬ (z.1 ≤ pc ∧ pc < z.2.1) ∨ (z.2.2.2 ≠ 0 ∧ Cond.classLink M.1.cls z.2.2.2 "java/lang/IllegalArgumentException" ∈ hk_ws ∧ E = "java/lang/IllegalStateException")) ∧ (x.1 ≤ pc ∧ pc < x.2.1) ∧ x.2.2.2 ≠ 0 ∧ Cond.classLink M.1.cls x.2.2.2 E ∈ hk_ws ∧ (E, E) ∈ hk_cast ∧ x.2.2.1 = hp ∧ i < M.2.2.1 ∧ ((∃ j : Fin 4, (j : Nat) = i ∧ decode M.2.1 hp = .ok (.astore_n j, 1)) ∨ decode M.2.1 hp = .ok (.astore i, 2))
def hk_cn (M : hk_M) (hp i : Nat) : Nat := if decode M.2.1 hp = .ok (.astore i, 2) then hp + 2 else hp + 1
theorem hk_catch {p : Program} {l : Launch} {e : Env} {R : Room} {s : State} {m : MethodId} {args : Array Value} {below : List Frame} {meth : Method} {c : Code} {H : Heap} {locs : List Loc} {cells slots : Nat} {Q9 : State → Prop} {ls : Array Slot} {rest : List Value} {E : String} {ce : Cell} {q hp i : Nat} (C : hk_Cx G M d p l R s m args meth c) (hL : hk_L G ls M.2.2.1 L) (hct : hk_ct M pc E hp i) (hcell : H[q]? = some ce) (hv : ce.vm = .none) (hcl : s.vm.findClass E = some ce.cls)
    (kk : ∀ ls', hk_L G ls' M.2.2.1 ((hk_kill L i).set i none) → W p l e R s m args below meth c H locs cells slots Q9 (F0 m (hk_cn M hp i) ls' [])) : vx_W p l e R s m args below meth c H locs cells slots Q9 (F0 m pc ls rest) q := by
  obtain ⟨pre, x, suf, e1, e2, e3, e4, e5, e6, e7, e8, e9⟩ := hct
  have hts := C.2.2.2.2.2.1
  have hK := C.2.2.2.2.2.2.2.2.2.1
  have htab := C.2.2.2.2.2.2.2.2.1
  rw [e1] at htab
  obtain ⟨ls', g1, g2⟩ := hL.storeQ (q := q) e8
  have hcode := C.2.1
  have hexec := C.1
  refine vx_catch C.2.2.2.2.1 (tableOf pre) ⟨x.1, x.2.1, x.2.2.1, x.2.2.2⟩ (tableOf suf) (by rw [htab]; simp [tableOf]) ?_ (by simp only [covers, Bool.and_eq_true, decide_eq_true_eq]; exact e3) e4 (hts _ e5) (va_Nw.use rfl (hK.2.2.2.2.2.1 _ e6)) hcell hv hcl ?_
  · intro z hz
    obtain ⟨z', hz', rfl⟩ := List.mem_map.mp hz
    rcases e2 z' hz' with h1 | ⟨h1, h2, h3⟩
    · refine Or.inl ?_
      simp only [covers, Bool.and_eq_false_iff, decide_eq_false_iff_not]
      omega
    · refine Or.inr ⟨h1, _, hts _ h2, ?_⟩
      rw [h3]
      exact hK.2.2.2.2.2.2.2.2.2.2
  · show W p l e R s m args below meth c H locs cells slots Q9 (F0 m x.2.2.1 ls [.ref q])
    rw [e7]
    intro T hT X
    obtain ⟨t, a, b⟩ := kk ls' g2 T hT X
    refine ⟨t, ?_, b⟩
    rcases e9 with ⟨j, hj, hdj⟩ | hdj
    · have e10 : hk_cn M hp i = hp + 1 := by
        unfold hk_cn
        rw [if_neg]
        rw [hdj]
        intro h9
        cases h9
      rw [e10] at a
      subst hj
      jvm_step X.here [X.here.top, ↓top_set X.here.top, hexec, hcode, hdj, g1, Value.isRef]
      exact a
    · have e10 : hk_cn M hp i = hp + 2 := if_pos hdj
      rw [e10] at a
      jvm_step X.here [X.here.top, ↓top_set X.here.top, hexec, hcode, hdj, g1, Value.isRef]
      exact a
/-- behind a call that came back or threw -/
theorem hk_backX {p : Program} {l : Launch} {e : Env} {R : Room} {s : State} {m : MethodId} {args : Array Value} {below : List Frame} {meth : Method} {c : Code} {H : Heap} {locs : List Loc} {cells slots mc ms : Nat} {ls : Array Slot} {st9 : List Value} {a : Array Value} {hp i : String → Nat}
    (C : hk_Cx G M (d + 1) p l R s m args meth c) (hS : va_S (hk_A G) s.heap H locs) (hL : hk_L G ls M.2.2.1 L) (hb : cells + (c1 + c2) ≤ mc ∧ slots + (s1 + s2) ≤ ms ∧ mc ≤ R.cells ∧ ms ≤ R.slots)
    (run : vx_Run p l e R s m args below meth c H locs cells slots c1 s1 (F0 m pc ls st9) (st.map (hk_cv G)) (hk_Qc G Qe a) (hk_XC G Qe) (hk_A G))
    (kx : ∀ E h', Qe (.inr E) h' → hk_ct M pc E (hp E) (i E) ∧ hk_S G M (d + 1) c2 s2 (hk_cn M (hp E) (i E)) ((hk_kill L (i E)).set (i E) none) [] h' Q)
    (kk : ∀ v h', Qe (.inl v) h' → hk_S G M (d + 1) c2 s2 (pc + 3) L (v.toList ++ st) h' Q) : W p l e R s m args below meth c H locs cells slots (vx_MQ below (hk_Qc G Q) (hk_XC G Q) args s mc ms (hk_A G)) (F0 m pc ls st9) := by
  intro T hT X
  rcases run T hT X with ⟨v, st₀, t, T', L9, h0, X', hL9, e1, e2, ⟨v', h', hv, hq, hR', hF⟩, go⟩ | ⟨q, st₀, t, T', L9, E, ce, h0, X', hL9, e1, e2, ⟨h', hq, hR', hF⟩, hce, hcv, hcl, go⟩
  · cases hv
    have hS' : va_S (hk_A G) s.heap T'.heap (locs ++ L9) := by
      refine ⟨Nat.le_trans hS.1 ?_, fun q g1 g2 => ?_, fun q hq => ?_⟩
      · rw [e1, ← h0]; exact hF.1
      · rw [e1, hF.2 q (by rw [h0]; exact Nat.lt_of_lt_of_le g1 hS.1) g2, h0]
        exact hS.2.1 q g1 g2
      · rcases List.mem_append.mp hq with g | g
        · exact hS.2.2 q g
        · exact hL9 q g
    obtain ⟨t2, a1, b1⟩ := kk v' h' hq p l e R s m args below meth c T'.heap (locs ++ L9) (cells + c1) (slots + s1) mc ms ls C hS' (by rw [e1]; exact hR') hL (by omega) T' rfl X'
    refine ⟨t2, go t2 ?_, b1⟩
    have e9 : ({ F0 m pc ls st9 with pc := pc + 3, stack := (v'.map (hk_cv G)).toList ++ st.map (hk_cv G) } : JFrame) = F0 m (pc + 3) ls ((v'.toList ++ st).map (hk_cv G)) := by
      cases v' <;> rfl
    rw [← e9] at a1
    exact a1
  · have hS' : va_S (hk_A G) s.heap T'.heap (locs ++ L9) := by
      refine ⟨Nat.le_trans hS.1 ?_, fun q g1 g2 => ?_, fun q hq => ?_⟩
      · rw [e1, ← h0]; exact hF.1
      · rw [e1, hF.2 q (by rw [h0]; exact Nat.lt_of_lt_of_le g1 hS.1) g2, h0]
        exact hS.2.1 q g1 g2
      · rcases List.mem_append.mp hq with g | g
        · exact hS.2.2 q g
        · exact hL9 q g
    obtain ⟨hct, ks⟩ := kx E h' hq
    obtain ⟨t2, a1, b1⟩ := hk_catch (rest := st.map (hk_cv G)) C hL hct (by rw [e1]; exact hce) hcv hcl (fun ls' hl' => ks p l e R s m args below meth c T'.heap (locs ++ L9) (cells + c1) (slots + s1) mc ms ls' C hS' (by rw [e1]; exact hR') hl' (by omega)) T' rfl X'
    exact ⟨t2, go.trans a1, b1⟩
/-- a call of a method that may throw; what it throws is caught here -/
theorem hs_callVX {idx n a ci : Nat} {vs fs : List Value} {r : vw_C} {hp i : String → Nat} (hd : decode M.2.1 pc = .ok (.invokevirtual idx, 3)) (hok : hk_ok M' n) (hh : M'.2.2.2.2 = []) (hw : Cond.methodLink M.1.cls idx M'.1 ∈ hk_ws) (hin : Cond.instanceMethod M'.1 ∈ hk_ws) (hc : hk_cl[ci]? = some r) (hsel : Cond.selects r.1 M'.1 M'.1 ∈ hk_ws) (ha : h.2 a = some (.inr (ci, fs))) (hn : vs.length = n) (hcat : (st.map (fun v => v.category)).sum ≤ 8)
    (hE : hk_E G M' d c1 s1 (.ref a :: vs) h Qe) (kx : ∀ E h', Qe (.inr E) h' → hk_ct M pc E (hp E) (i E) ∧ hk_S G M (d + 1) c2 s2 (hk_cn M (hp E) (i E)) ((hk_kill L (i E)).set (i E) none) [] h' Q) (kk : ∀ v h', Qe (.inl v) h' → hk_S G M (d + 1) c2 s2 (pc + 3) L (v.toList ++ st) h' Q) : hk_S G M (d + 1) (c1 + c2) (s1 + s2) pc L (vs.reverse ++ .ref a :: st) h Q := by
  intro p l e R s m args below meth c H locs cells slots mc ms ls C hS hR hL hb
  have hts := C.2.2.2.2.2.1
  refine hk_backX (st9 := (vs.reverse ++ .ref a :: st).map (hk_cv G)) C hS hL hb (a := ((.ref a :: vs).map (hk_cv G)).toArray) ?_ kx kk
  exact vx_runV (As := vs.map (hk_cv G)) (b := hk_r G a) (C := r.1) (hk_fix C) (hk_met C.2.2.2.2.2.2.2.2.2.2.1 hok hE) ⟨hk_callB C hok hh hw, hts _ hin, hts _ hsel⟩ ⟨hk_blind, hk_recv C.2.2.2.2.2.2.2.2.2.1 hR hc ha, hk_pre (vs := .ref a :: vs) C hS hR⟩ rfl (by rw [List.length_map]; exact hn) hL.1 (by show (vs.reverse ++ .ref a :: st).map (hk_cv G) = _; rw [List.map_append, List.map_reverse]; rfl) (by show 2 * 0 + _ ≤ 8; rw [hk_cats]; omega) hd ⟨by omega, by omega⟩
/-- a static method with a table of its own -/
theorem hs_callSH {idx n : Nat} {vs : List Value} (hd : decode M.2.1 pc = .ok (.invokestatic idx, 3)) (hok : hk_ok M' n) (hh : M'.2.2.2.2 ≠ []) (hw : Cond.methodLink M.1.cls idx M'.1 ∈ hk_ws) (hst : Cond.static M'.1 ∈ hk_ws) (hn : vs.length = n) (hcat : (st.map (fun v => v.category)).sum ≤ 8)
    (hE : hk_E G M' d c1 s1 vs h Qe) (hno : ∀ E h', ¬ Qe (.inr E) h') (kk : ∀ v h', Qe (.inl v) h' → hk_S G M (d + 1) c2 s2 (pc + 3) L (v.toList ++ st) h' Q) : hk_S G M (d + 1) (c1 + c2) (s1 + s2) pc L (vs.reverse ++ st) h Q := by
  intro p l e R s m args below meth c H locs cells slots mc ms ls C hS hR hL hb
  have hts := C.2.2.2.2.2.1
  have hfr := C.2.2.2.2.2.2.2.2.2.2.2.1
  have hlo := C.2.2.2.2.2.2.2.2.2.2.2.2.1
  have e1 : hk_cw M' = .codeWith M'.1 M'.2.1 M'.2.2.1 M'.2.2.2.1 M'.2.2.2.2 := if_neg hh
  obtain ⟨o1, o2, o3, o4, o5, o6⟩ := id hok
  refine hk_backX (hp := fun _ => 0) (i := fun _ => 0) (st9 := (vs.reverse ++ st).map (hk_cv G)) C hS hL hb (a := (vs.map (hk_cv G)).toArray) ?_ (fun E h' hq => (hno E h' hq).elim) kk
  refine vx_runSX (hh := M'.2.2.2.2) (bytes := M'.2.1) (maxL := M'.2.2.1) (ret := M'.2.2.2.1) (n := n) (As := vs.map (hk_cv G)) (hk_fix C) (hk_met C.2.2.2.2.2.2.2.2.2.2.1 hok hE) ?_ ⟨hk_blind, hk_pre C hS hR⟩ rfl (by rw [List.length_map]; exact hn) hL.1 (by show (vs.reverse ++ st).map (hk_cv G) = _; rw [List.map_append, List.map_reverse]) (by show 2 * 0 + _ ≤ 8; rw [hk_cats]; omega) hd ⟨by omega, by omega⟩
  refine ⟨⟨rfl, rfl, hk_fr1 hfr, hk_lo1 o4 hlo, fun w hw a' U hW => ?_, by rw [e1]; exact List.mem_cons_self⟩, hts _ (by rw [← e1]; exact o6), hts _ o5, o2, hk_len hok, hts _ hw, hts _ hst⟩
  rcases List.mem_cons.mp hw with rfl | hw
  · exact hk_word hts o6 a' U hW
  · exact hk_word hts hw a' U hW
end HT
end
section
section HY
variable {G : hk_G} {M M' : hk_M} {d cb sb c1 s1 c2 s2 pc : Nat} {L L' : List (Option Value)} {st : List Value} {h : hk_H} {Q Qe : hk_O → hk_H → Prop}
set_option maxRecDepth 10000 in
theorem hk_lo3 {d r q : Nat} (h : 64 * d + 400 ≤ r) (hq : q ≤ 8) : q + (nativeFrameWords "java/lang/System" "arraycopy" 5 + 11) ≤ r := by
  rw [show nativeFrameWords "java/lang/System" "arraycopy" 5 = 7 by decide +kernel]
  omega
set_option maxHeartbeats 1000000 in
theorem hs_copyi {idx a a0 n0 n1 : Nat} {f g : Nat → Int32} {sp dp n : Int32} (spN dpN nN : Nat) (hd : decode M.2.1 pc = .ok (.invokestatic idx, 3)) (hw : Cond.methodLink M.1.cls idx arraycopyName ∈ hk_ws ∧ Cond.native arraycopyName ∈ hk_ws ∧ Cond.static arraycopyName ∈ hk_ws ∧ Cond.initialized "java/lang/System" ∈ hk_ws) (ha0 : h.2 a0 = some (.inl (0, n0, (.inl f)))) (ha1 : h.2 a = some (.inl (0, n1, (.inl g)))) (h4a : 4 ≤ a) (e1 : sp.toInt = (spN : Int)) (e2 : dp.toInt = (dpN : Int)) (e3 : n.toInt = (nN : Int)) (h4 : spN + nN ≤ n0) (h5 : dpN + nN ≤ n1) (hcat : (st.map (fun v => v.category)).sum ≤ 8)
    (kk : hk_S G M d cb sb (pc + 3) L st (hk_set h a (.inl (0, n1, (.inl (va_cpy f g spN dpN nN))))) Q) : hk_S G M d cb sb pc L (.int n :: .int dp :: .ref a :: .int sp :: .ref a0 :: st) h Q := by
  intro p l e R s m args below meth c H locs cells slots mc ms ls C hS hR hL hb
  have hts := C.2.2.2.2.2.1
  have hK := C.2.2.2.2.2.2.2.2.2.1.1
  have hfr := C.2.2.2.2.2.2.2.2.2.2.2.1
  have hlo := C.2.2.2.2.2.2.2.2.2.2.2.2.1
  have hbb := C.2.1
  have nn : ∀ (z : Int32) (k : Nat), z.toInt = (k : Int) → ¬ z < 0 := fun z k hz => by rw [Int32.lt_iff_toInt_lt, Int32.toInt_zero]; omega
  have h1 := nn sp spN e1
  have h2 := nn dp dpN e2
  have h3 := nn n nN e3
  intro T hT X
  have hc0 : H[hk_r G a0]? = some (vp_cell (G.2.1 0) (n0, (.inl f))) := hR.2.2.2 a0 _ ha0
  have hc1 : H[hk_r G a]? = some (vp_cell (G.2.1 0) (n1, (.inl g))) := hR.2.2.2 a _ ha1
  obtain ⟨-, k0, hk0, cm0, hkk0⟩ := (hK.2 0 _ rfl).1 n0 (fun j => .int (f j))
  obtain ⟨-, k1, hk1, cm1, hkk1⟩ := (hK.2 0 _ rfl).1 n1 (fun j => .int (g j))
  obtain ⟨vm', X', step⟩ := X.arraycopy C.1 C.2.2.2.2.1 (hts _ hw.1) (hts _ hw.2.1) (hts _ hw.2.2.1) (hts _ hw.2.2.2) (src := hk_r G a0) (dst := hk_r G a) (cs := vp_cell (G.2.1 0) (n0, (.inl f))) (cd := vp_cell (G.2.1 0) (n1, (.inl g))) (srcPos := sp) (destPos := dp) (n := n) (by rw [hT]; exact hc0) (by rw [hT]; exact hc1)
    (fun _ h => by cases h) (fun _ h => by cases h) (fun h => by cases h) (fun h => by cases h) hk0 hk1 hkk0 hkk1 (by simp [refKind]) h1 h2 h3
    (by rw [e1, e3]; show ¬ _ > ((arrV _ n0 (fun j => .int (f j))).slots.size : Int); rw [arrV_size]; omega)
    (by rw [e2, e3]; show ¬ _ > ((arrV _ n1 (fun j => .int (g j))).slots.size : Int); rw [arrV_size]; omega)
    (fun vm₁ _ i hi => by
      rw [hk_clamp e3] at hi
      rw [hk_clamp e1]
      have e9 : (vp_cell (G.2.1 0) (n0, (.inl f))).slots.getD (spN + i) .null = .int (f (spN + i)) := by
        show (arrV _ n0 (fun j => .int (f j))).slots.getD _ _ = _
        rw [Array.getD_eq_getD_getElem?, arrV_read _ _ (by omega)]
        rfl
      refine ⟨?_, ?_⟩
      · rw [e9]
        rfl
      · rw [e9]
        exact trivial)
    (g := F0 m pc ls (.int n :: .int dp :: .ref (hk_r G a) :: .int sp :: .ref (hk_r G a0) :: st.map (hk_cv G))) rfl (by rw [C.2.2.2.1]; exact hL.1) (rest := st.map (hk_cv G)) rfl (by rw [hbb]; exact hd) (by omega) (by show 2 * 0 + _ + _ ≤ _; rw [Nat.mul_zero, Nat.zero_add, hk_cats]; exact hk_lo3 hlo hcat)
  have e6 : copied (vp_cell (G.2.1 0) (n0, (.inl f))) (vp_cell (G.2.1 0) (n1, (.inl g))) sp dp n = vp_cell (G.2.1 0) (n1, (.inl (va_cpy f g spN dpN nN))) := by
    have := va_copied (fun z => .int z) (G.2.1 0) (G.2.1 0) (n1 := n1) (dp := dp.toNatClampNeg) (n := n.toNatClampNeg) (sp := sp.toNatClampNeg) f g (by rw [hk_clamp e1, hk_clamp e3]; exact h4)
    rw [hk_clamp e1, hk_clamp e2, hk_clamp e3] at this
    show (vp_cell (G.2.1 0) (n1, (.inl g))).storeRun dp.toNatClampNeg ((vp_cell (G.2.1 0) (n0, (.inl f))).stretch sp.toNatClampNeg n.toNatClampNeg) = _
    rw [hk_clamp e1, hk_clamp e2, hk_clamp e3]
    exact this
  rw [e6] at X' step
  have hl : hk_r G a < H.size := (Array.getElem?_eq_some_iff.mp hc1).1
  have hheap : ((T.setVm vm').setCell (hk_r G a) (vp_cell (G.2.1 0) (n1, (.inl (va_cpy f g spN dpN nN))))).heap = H.setIfInBounds (hk_r G a) (vp_cell (G.2.1 0) (n1, (.inl (va_cpy f g spN dpN nN)))) := by rw [← hT]; rfl
  have oq : ∀ q : Nat, q ≠ hk_r G a → (H.setIfInBounds (hk_r G a) (vp_cell (G.2.1 0) (n1, (.inl (va_cpy f g spN dpN nN)))))[q]? = H[q]? := fun q hq => by simp [Array.getElem?_setIfInBounds, Ne.symm hq]
  obtain ⟨t9, a1, b1⟩ := kk p l e R s m args below meth c _ _ cells slots mc ms ls C ⟨by simp; exact hS.1, fun q g1 g2 => by
      rw [oq q (fun e => g2 (by rw [e]; exact hR.own h4a))]
      exact hS.2.1 q g1 g2, fun q hq => by
      rcases List.mem_append.mp hq with h | h
      · exact hS.2.2 q h
      · obtain ⟨z, -, hz⟩ := List.mem_map.mp h
        rw [← hz]
        exact hR.own h4a⟩ (hR.put h4a (show (H.setIfInBounds (hk_r G a) _)[hk_r G a]? = some (vp_cell (G.2.1 0) (n1, (.inl (va_cpy f g spN dpN nN)))) by simp [Array.getElem?_setIfInBounds, hl]) (by simp) oq) hL hb _ hheap X'
  exact ⟨t9, step t9 a1, b1⟩
set_option maxHeartbeats 1000000 in
theorem hs_copyl {idx a a0 n0 n1 : Nat} {f g : Nat → Int64} {sp dp n : Int32} (spN dpN nN : Nat) (hd : decode M.2.1 pc = .ok (.invokestatic idx, 3)) (hw : Cond.methodLink M.1.cls idx arraycopyName ∈ hk_ws ∧ Cond.native arraycopyName ∈ hk_ws ∧ Cond.static arraycopyName ∈ hk_ws ∧ Cond.initialized "java/lang/System" ∈ hk_ws) (ha0 : h.2 a0 = some (.inl (1, n0, (.inr (.inl f))))) (ha1 : h.2 a = some (.inl (1, n1, (.inr (.inl g))))) (h4a : 4 ≤ a) (e1 : sp.toInt = (spN : Int)) (e2 : dp.toInt = (dpN : Int)) (e3 : n.toInt = (nN : Int)) (h4 : spN + nN ≤ n0) (h5 : dpN + nN ≤ n1) (hcat : (st.map (fun v => v.category)).sum ≤ 8)
    (kk : hk_S G M d cb sb (pc + 3) L st (hk_set h a (.inl (1, n1, (.inr (.inl (va_cpy f g spN dpN nN)))))) Q) : hk_S G M d cb sb pc L (.int n :: .int dp :: .ref a :: .int sp :: .ref a0 :: st) h Q := by
  intro p l e R s m args below meth c H locs cells slots mc ms ls C hS hR hL hb
  have hts := C.2.2.2.2.2.1
  have hK := C.2.2.2.2.2.2.2.2.2.1.1
  have hfr := C.2.2.2.2.2.2.2.2.2.2.2.1
  have hlo := C.2.2.2.2.2.2.2.2.2.2.2.2.1
  have hbb := C.2.1
  have nn : ∀ (z : Int32) (k : Nat), z.toInt = (k : Int) → ¬ z < 0 := fun z k hz => by rw [Int32.lt_iff_toInt_lt, Int32.toInt_zero]; omega
  have h1 := nn sp spN e1
  have h2 := nn dp dpN e2
  have h3 := nn n nN e3
  intro T hT X
  have hc0 : H[hk_r G a0]? = some (vp_cell (G.2.1 1) (n0, (.inr (.inl f)))) := hR.2.2.2 a0 _ ha0
  have hc1 : H[hk_r G a]? = some (vp_cell (G.2.1 1) (n1, (.inr (.inl g)))) := hR.2.2.2 a _ ha1
  obtain ⟨-, k0, hk0, cm0, hkk0⟩ := (hK.2 1 _ rfl).1 n0 (fun j => .long (f j))
  obtain ⟨-, k1, hk1, cm1, hkk1⟩ := (hK.2 1 _ rfl).1 n1 (fun j => .long (g j))
  obtain ⟨vm', X', step⟩ := X.arraycopy C.1 C.2.2.2.2.1 (hts _ hw.1) (hts _ hw.2.1) (hts _ hw.2.2.1) (hts _ hw.2.2.2) (src := hk_r G a0) (dst := hk_r G a) (cs := vp_cell (G.2.1 1) (n0, (.inr (.inl f)))) (cd := vp_cell (G.2.1 1) (n1, (.inr (.inl g)))) (srcPos := sp) (destPos := dp) (n := n) (by rw [hT]; exact hc0) (by rw [hT]; exact hc1)
    (fun _ h => by cases h) (fun _ h => by cases h) (fun h => by cases h) (fun h => by cases h) hk0 hk1 hkk0 hkk1 (by simp [refKind]) h1 h2 h3
    (by rw [e1, e3]; show ¬ _ > ((arrV _ n0 (fun j => .long (f j))).slots.size : Int); rw [arrV_size]; omega)
    (by rw [e2, e3]; show ¬ _ > ((arrV _ n1 (fun j => .long (g j))).slots.size : Int); rw [arrV_size]; omega)
    (fun vm₁ _ i hi => by
      rw [hk_clamp e3] at hi
      rw [hk_clamp e1]
      have e9 : (vp_cell (G.2.1 1) (n0, (.inr (.inl f)))).slots.getD (spN + i) .null = .long (f (spN + i)) := by
        show (arrV _ n0 (fun j => .long (f j))).slots.getD _ _ = _
        rw [Array.getD_eq_getD_getElem?, arrV_read _ _ (by omega)]
        rfl
      refine ⟨?_, ?_⟩
      · rw [e9]
        rfl
      · rw [e9]
        exact trivial)
    (g := F0 m pc ls (.int n :: .int dp :: .ref (hk_r G a) :: .int sp :: .ref (hk_r G a0) :: st.map (hk_cv G))) rfl (by rw [C.2.2.2.1]; exact hL.1) (rest := st.map (hk_cv G)) rfl (by rw [hbb]; exact hd) (by omega) (by show 2 * 0 + _ + _ ≤ _; rw [Nat.mul_zero, Nat.zero_add, hk_cats]; exact hk_lo3 hlo hcat)
  have e6 : copied (vp_cell (G.2.1 1) (n0, (.inr (.inl f)))) (vp_cell (G.2.1 1) (n1, (.inr (.inl g)))) sp dp n = vp_cell (G.2.1 1) (n1, (.inr (.inl (va_cpy f g spN dpN nN)))) := by
    have := va_copied (fun z => .long z) (G.2.1 1) (G.2.1 1) (n1 := n1) (dp := dp.toNatClampNeg) (n := n.toNatClampNeg) (sp := sp.toNatClampNeg) f g (by rw [hk_clamp e1, hk_clamp e3]; exact h4)
    rw [hk_clamp e1, hk_clamp e2, hk_clamp e3] at this
    show (vp_cell (G.2.1 1) (n1, (.inr (.inl g)))).storeRun dp.toNatClampNeg ((vp_cell (G.2.1 1) (n0, (.inr (.inl f)))).stretch sp.toNatClampNeg n.toNatClampNeg) = _
    rw [hk_clamp e1, hk_clamp e2, hk_clamp e3]
    exact this
  rw [e6] at X' step
  have hl : hk_r G a < H.size := (Array.getElem?_eq_some_iff.mp hc1).1
  have hheap : ((T.setVm vm').setCell (hk_r G a) (vp_cell (G.2.1 1) (n1, (.inr (.inl (va_cpy f g spN dpN nN)))))).heap = H.setIfInBounds (hk_r G a) (vp_cell (G.2.1 1) (n1, (.inr (.inl (va_cpy f g spN dpN nN))))) := by rw [← hT]; rfl
  have oq : ∀ q : Nat, q ≠ hk_r G a → (H.setIfInBounds (hk_r G a) (vp_cell (G.2.1 1) (n1, (.inr (.inl (va_cpy f g spN dpN nN))))))[q]? = H[q]? := fun q hq => by simp [Array.getElem?_setIfInBounds, Ne.symm hq]
  obtain ⟨t9, a1, b1⟩ := kk p l e R s m args below meth c _ _ cells slots mc ms ls C ⟨by simp; exact hS.1, fun q g1 g2 => by
      rw [oq q (fun e => g2 (by rw [e]; exact hR.own h4a))]
      exact hS.2.1 q g1 g2, fun q hq => by
      rcases List.mem_append.mp hq with h | h
      · exact hS.2.2 q h
      · obtain ⟨z, -, hz⟩ := List.mem_map.mp h
        rw [← hz]
        exact hR.own h4a⟩ (hR.put h4a (show (H.setIfInBounds (hk_r G a) _)[hk_r G a]? = some (vp_cell (G.2.1 1) (n1, (.inr (.inl (va_cpy f g spN dpN nN))))) by simp [Array.getElem?_setIfInBounds, hl]) (by simp) oq) hL hb _ hheap X'
  exact ⟨t9, step t9 a1, b1⟩
/-- a method by the receiver's class that may throw; what it throws is caught here -/
theorem hs_callUX {idx n a ci : Nat} {vs fs : List Value} {r : vw_C} {x : MethodName} {owner : String} {hp i : String → Nat} (hd : decode M.2.1 pc = .ok (.invokevirtual idx, 3)) (hok : hk_ok M' n) (hh : M'.2.2.2.2 = []) (hdx : x.desc = M'.1.desc) (hc : hk_cl[ci]? = some r) (hw : Cond.methodLink M.1.cls idx x ∈ hk_ws ∧ Cond.sameMethod x.cls owner x.name x.desc ∈ hk_ws ∧ Cond.selects r.1 x M'.1 ∈ hk_ws ∧ Cond.instanceMethod M'.1 ∈ hk_ws) (ho : owner ≠ "java/lang/invoke/MethodHandle" ∧ owner ≠ "java/lang/invoke/VarHandle") (hde : (Cond.instanceMethod ⟨owner, x.name, x.desc⟩ ∈ hk_ws ∧ ∃ b0 m0 r0, Cond.code ⟨owner, x.name, x.desc⟩ b0 m0 r0 ∈ hk_ws) ∨ (⟨owner, x.name, x.desc⟩ : MethodName) ∈ hk_decl) (ha : h.2 a = some (.inr (ci, fs))) (hn : vs.length = n) (hcat : (st.map (fun v => v.category)).sum ≤ 8)
    (hE : hk_E G M' d c1 s1 (.ref a :: vs) h Qe) (kx : ∀ E h', Qe (.inr E) h' → hk_ct M pc E (hp E) (i E) ∧ hk_S G M (d + 1) c2 s2 (hk_cn M (hp E) (i E)) ((hk_kill L (i E)).set (i E) none) [] h' Q) (kk : ∀ v h', Qe (.inl v) h' → hk_S G M (d + 1) c2 s2 (pc + 3) L (v.toList ++ st) h' Q) : hk_S G M (d + 1) (c1 + c2) (s1 + s2) pc L (vs.reverse ++ .ref a :: st) h Q := by
  intro p l e R s m args below meth c H locs cells slots mc ms ls C hS hR hL hb
  refine hk_backX (st9 := (vs.reverse ++ .ref a :: st).map (hk_cv G)) C hS hL hb (a := ((.ref a :: vs).map (hk_cv G)).toArray) ?_ kx kk
  have cw := hk_cu (c1 := c1) (s1 := s1) C hok hh hdx hw ho hde
  obtain ⟨hrc, hrs, hfr, hlo, hws, hcw⟩ := cw.back
  have hini := cw.init
  have hM := hk_met C.2.2.2.2.2.2.2.2.2.2.1 hok hE
  have hK : vx_Back l R p e below s args M'.1 3 8 (PreOf R c1 s1 (hk_Pc G (.ref a :: vs) h)) (PostOf (hk_Qc G Qe) c1 s1 (hk_A G)) (vx_Post (hk_XC G Qe) c1 s1 (hk_A G)) := vx_back (bytes := M'.2.1) (maxL := M'.2.2.1) (ret := M'.2.2.2.1) hM hk_blind hrc hrs hfr hlo hws hcw (fun a' U hW => word_at hW (Or.inl (by first | rfl | simp [Cond.onTables, Cond.keeps, Cond.steady])) hini)
  obtain ⟨cellB, hcB, hoB, hclB⟩ := hk_recv C.2.2.2.2.2.2.2.2.2.1 hR hc ha
  have hPc := hk_pre (vs := .ref a :: vs) C hS hR
  intro T hT X
  obtain ⟨r0, r9, hn0, hrm, hstR, hsigR⟩ := cw.decl
  have hsame := cw.same
  obtain ⟨cn, ck, r1, hcn, hck, hni, hf, hn1⟩ := Cond.sameMethod_found hsame
  cases hn0.symm.trans hn1
  obtain ⟨mk, methM, hnamed, hmethM, -, habM⟩ := Cond.instanceMethod_spec cw.inst
  obtain ⟨c3, r2, m2, q1, q2, q3, q4, kP, hkP, hkPi⟩ := Cond.selects_spec cw.sel
  cases hclB.symm.trans q1
  cases hf.symm.trans q2
  cases hnamed.symm.trans q3
  have hselP : selectMethod e.platform s.vm cellB.cls r0 = .method mk := by rw [Launch.admits_selectMethod X.admits]; exact q4
  have hbb := C.2.1
  obtain ⟨vm₁, X₁, hstep₁⟩ := X.invokevirtualUp C.1 C.2.2.2.2.1 cw.link hsame cw.notMH hn0 hrm hstR (a := hk_r G a) (cell := cellB) (by rw [hT]; exact hcB)
    (fun z h => by rw [h] at hoB; cases hoB) hselP hmethM habM hkP hkPi (g := F0 m pc ls ((vs.reverse ++ .ref a :: st).map (hk_cv G))) rfl (argsL := vs.map (hk_cv G)) (rest := st.map (hk_cv G)) (by rw [List.length_map, hn]; exact cw.len _ hsigR) (by show (vs.reverse ++ .ref a :: st).map (hk_cv G) = _; rw [List.map_append, List.map_reverse]; rfl) (by rw [hbb]; exact hd)
  rcases hK m meth c ⟨T.setVm vm₁, locs, cells, slots⟩ { F0 m pc ls ((vs.reverse ++ .ref a :: st).map (hk_cv G)) with stack := st.map (hk_cv G) } (.invokevirtual idx) mk (Value.ref (hk_r G a) :: vs.map (hk_cv G)).toArray X₁ rfl (hL.1.trans C.2.2.2.1.symm) (by rw [hbb]; exact hd) (by show 2 * 0 + _ ≤ 8; rw [hk_cats]; omega) (X₁.named hnamed) ⟨by show cells + c1 ≤ R.cells; omega, by show slots + s1 ≤ R.slots; omega, hPc (T.setVm vm₁) hT X₁.warmed⟩ with ⟨v, B, X', ⟨g', mk', t, LL, f1, f2, hq, g1, hLL, g2, g3⟩, hsteps⟩ | ⟨q, B, X', ⟨g', mk', t, LL, E, ce, f1, f2, hq, hce, hcv, hcl, g1, hLL, g2, g3⟩, hsteps⟩
  · obtain ⟨U', l2, n2, n3⟩ := B
    dsimp only [Pt.U, Pt.locs, Pt.cells, Pt.slots] at X' f1 f2 g1 g2 g3 hsteps
    subst g1; subst g2; subst g3
    exact Or.inl ⟨v, (T.setVm vm₁).calling g' mk' (Value.ref (hk_r G a) :: vs.map (hk_cv G)).toArray, t, U', LL, hT, X', hLL, f1, f2, hq, fun target h9 => hstep₁ _ fun acts => by rw [doInvoke_state]; exact hsteps.trans h9⟩
  · obtain ⟨U', l2, n2, n3⟩ := B
    dsimp only [Pt.U, Pt.locs, Pt.cells, Pt.slots] at X' f1 f2 g1 g2 g3 hcl hsteps
    subst g1; subst g2; subst g3
    exact Or.inr ⟨q, (T.setVm vm₁).calling g' mk' (Value.ref (hk_r G a) :: vs.map (hk_cv G)).toArray, t, U', LL, E, ce, hT, X', hLL, f1, f2, hq, hce, hcv, vx_cls X₁.warmed hcl, hstep₁ _ fun acts => by rw [doInvoke_state]; exact hsteps⟩
end HY
end
