section
-- ===== PART A: goes FIRST, ahead of the names: the tables' words, and 'selects' of the private methods out of them =====
/-- a private method of a class that the tables say can be made, by its rows of tables_1 -/
def lw_okq (q : MethodName × Nat) : Prop := (q.1.cls ≠ "java/lang/invoke/MethodHandle" ∧ q.1.cls ≠ "java/lang/invoke/VarHandle") ∧ Cond.instantiable q.1.cls q.2 ∈ tables_1 ∧ Cond.privateMethod q.1 ∈ tables_1 ∧ Cond.instanceMethod q.1 ∈ tables_1
theorem lw_p0 : lw_okq (⟨"TradeFloor$Command", "readOrder", "(LTradeFloor$Tape;)I"⟩, 9) := ⟨⟨by decide +kernel, by decide +kernel⟩, List.mem_of_getElem? (i := 49) (by decide +kernel), List.mem_of_getElem? (i := 319) (by decide +kernel), List.mem_of_getElem? (i := 320) (by decide +kernel)⟩
theorem lw_p1 : lw_okq (⟨"TradeFloor$Command", "readBasics", "(LTradeFloor$Tape;I)Z"⟩, 9) := ⟨⟨by decide +kernel, by decide +kernel⟩, List.mem_of_getElem? (i := 49) (by decide +kernel), List.mem_of_getElem? (i := 323) (by decide +kernel), List.mem_of_getElem? (i := 324) (by decide +kernel)⟩
theorem lw_p2 : lw_okq (⟨"TradeFloor$Command", "readOwner", "(LTradeFloor$Tape;I)Z"⟩, 9) := ⟨⟨by decide +kernel, by decide +kernel⟩, List.mem_of_getElem? (i := 49) (by decide +kernel), List.mem_of_getElem? (i := 335) (by decide +kernel), List.mem_of_getElem? (i := 336) (by decide +kernel)⟩
theorem lw_p3 : lw_okq (⟨"TradeFloor$Command", "readPrice", "(LTradeFloor$Tape;I)Z"⟩, 9) := ⟨⟨by decide +kernel, by decide +kernel⟩, List.mem_of_getElem? (i := 49) (by decide +kernel), List.mem_of_getElem? (i := 340) (by decide +kernel), List.mem_of_getElem? (i := 341) (by decide +kernel)⟩
theorem lw_p4 : lw_okq (⟨"TradeFloor$Command", "readWay", "(LTradeFloor$Tape;I)Z"⟩, 9) := ⟨⟨by decide +kernel, by decide +kernel⟩, List.mem_of_getElem? (i := 49) (by decide +kernel), List.mem_of_getElem? (i := 345) (by decide +kernel), List.mem_of_getElem? (i := 346) (by decide +kernel)⟩
theorem lw_p5 : lw_okq (⟨"TradeFloor$Command", "readTicks", "(LTradeFloor$Tape;I)Z"⟩, 9) := ⟨⟨by decide +kernel, by decide +kernel⟩, List.mem_of_getElem? (i := 49) (by decide +kernel), List.mem_of_getElem? (i := 350) (by decide +kernel), List.mem_of_getElem? (i := 351) (by decide +kernel)⟩
theorem lw_p6 : lw_okq (⟨"TradeFloor$Command", "readStop", "(LTradeFloor$Tape;)I"⟩, 9) := ⟨⟨by decide +kernel, by decide +kernel⟩, List.mem_of_getElem? (i := 49) (by decide +kernel), List.mem_of_getElem? (i := 358) (by decide +kernel), List.mem_of_getElem? (i := 359) (by decide +kernel)⟩
theorem lw_p7 : lw_okq (⟨"TradeFloor$Command", "readAmount", "(LTradeFloor$Tape;I)I"⟩, 9) := ⟨⟨by decide +kernel, by decide +kernel⟩, List.mem_of_getElem? (i := 49) (by decide +kernel), List.mem_of_getElem? (i := 363) (by decide +kernel), List.mem_of_getElem? (i := 364) (by decide +kernel)⟩
theorem lw_p8 : lw_okq (⟨"TradeFloor$Command", "readCancel", "(LTradeFloor$Tape;)I"⟩, 9) := ⟨⟨by decide +kernel, by decide +kernel⟩, List.mem_of_getElem? (i := 49) (by decide +kernel), List.mem_of_getElem? (i := 371) (by decide +kernel), List.mem_of_getElem? (i := 372) (by decide +kernel)⟩
theorem lw_p9 : lw_okq (⟨"TradeFloor$Command", "readLess", "(LTradeFloor$Tape;)I"⟩, 9) := ⟨⟨by decide +kernel, by decide +kernel⟩, List.mem_of_getElem? (i := 49) (by decide +kernel), List.mem_of_getElem? (i := 376) (by decide +kernel), List.mem_of_getElem? (i := 377) (by decide +kernel)⟩
theorem lw_p10 : lw_okq (⟨"TradeFloor$Command", "readTick", "(LTradeFloor$Tape;)I"⟩, 9) := ⟨⟨by decide +kernel, by decide +kernel⟩, List.mem_of_getElem? (i := 49) (by decide +kernel), List.mem_of_getElem? (i := 381) (by decide +kernel), List.mem_of_getElem? (i := 382) (by decide +kernel)⟩
theorem lw_p11 : lw_okq (⟨"TradeFloor$Exchange", "moveAmount", "(LTradeFloor$Command;)I"⟩, 5) := ⟨⟨by decide +kernel, by decide +kernel⟩, List.mem_of_getElem? (i := 96) (by decide +kernel), List.mem_of_getElem? (i := 393) (by decide +kernel), List.mem_of_getElem? (i := 394) (by decide +kernel)⟩
theorem lw_p12 : lw_okq (⟨"TradeFloor$Exchange", "placeLimit", "(LTradeFloor$Command;)I"⟩, 5) := ⟨⟨by decide +kernel, by decide +kernel⟩, List.mem_of_getElem? (i := 96) (by decide +kernel), List.mem_of_getElem? (i := 401) (by decide +kernel), List.mem_of_getElem? (i := 402) (by decide +kernel)⟩
theorem lw_p13 : lw_okq (⟨"TradeFloor$Exchange", "hasFunds", "(LTradeFloor$Command;)Z"⟩, 5) := ⟨⟨by decide +kernel, by decide +kernel⟩, List.mem_of_getElem? (i := 96) (by decide +kernel), List.mem_of_getElem? (i := 409) (by decide +kernel), List.mem_of_getElem? (i := 410) (by decide +kernel)⟩
theorem lw_p14 : lw_okq (⟨"TradeFloor$Exchange", "findsItsMatches", "(LTradeFloor$Command;)Z"⟩, 5) := ⟨⟨by decide +kernel, by decide +kernel⟩, List.mem_of_getElem? (i := 96) (by decide +kernel), List.mem_of_getElem? (i := 417) (by decide +kernel), List.mem_of_getElem? (i := 418) (by decide +kernel)⟩
theorem lw_p15 : lw_okq (⟨"TradeFloor$Exchange", "meet", "(LTradeFloor$Order;II)V"⟩, 5) := ⟨⟨by decide +kernel, by decide +kernel⟩, List.mem_of_getElem? (i := 96) (by decide +kernel), List.mem_of_getElem? (i := 442) (by decide +kernel), List.mem_of_getElem? (i := 443) (by decide +kernel)⟩
def lw_privs_1 : List (MethodName × Nat) := [(⟨"TradeFloor$Command", "readOrder", "(LTradeFloor$Tape;)I"⟩, 9), (⟨"TradeFloor$Command", "readBasics", "(LTradeFloor$Tape;I)Z"⟩, 9), (⟨"TradeFloor$Command", "readOwner", "(LTradeFloor$Tape;I)Z"⟩, 9), (⟨"TradeFloor$Command", "readPrice", "(LTradeFloor$Tape;I)Z"⟩, 9), (⟨"TradeFloor$Command", "readWay", "(LTradeFloor$Tape;I)Z"⟩, 9), (⟨"TradeFloor$Command", "readTicks", "(LTradeFloor$Tape;I)Z"⟩, 9), (⟨"TradeFloor$Command", "readStop", "(LTradeFloor$Tape;)I"⟩, 9), (⟨"TradeFloor$Command", "readAmount", "(LTradeFloor$Tape;I)I"⟩, 9), (⟨"TradeFloor$Command", "readCancel", "(LTradeFloor$Tape;)I"⟩, 9), (⟨"TradeFloor$Command", "readLess", "(LTradeFloor$Tape;)I"⟩, 9), (⟨"TradeFloor$Command", "readTick", "(LTradeFloor$Tape;)I"⟩, 9), (⟨"TradeFloor$Exchange", "moveAmount", "(LTradeFloor$Command;)I"⟩, 5), (⟨"TradeFloor$Exchange", "placeLimit", "(LTradeFloor$Command;)I"⟩, 5), (⟨"TradeFloor$Exchange", "hasFunds", "(LTradeFloor$Command;)Z"⟩, 5), (⟨"TradeFloor$Exchange", "findsItsMatches", "(LTradeFloor$Command;)Z"⟩, 5), (⟨"TradeFloor$Exchange", "meet", "(LTradeFloor$Order;II)V"⟩, 5)]
theorem lw_r1 : ∀ q ∈ lw_privs_1, lw_okq q := List.forall_mem_cons.mpr ⟨lw_p0, List.forall_mem_cons.mpr ⟨lw_p1, List.forall_mem_cons.mpr ⟨lw_p2, List.forall_mem_cons.mpr ⟨lw_p3, List.forall_mem_cons.mpr ⟨lw_p4, List.forall_mem_cons.mpr ⟨lw_p5, List.forall_mem_cons.mpr ⟨lw_p6, List.forall_mem_cons.mpr ⟨lw_p7, List.forall_mem_cons.mpr ⟨lw_p8, List.forall_mem_cons.mpr ⟨lw_p9, List.forall_mem_cons.mpr ⟨lw_p10, List.forall_mem_cons.mpr ⟨lw_p11, List.forall_mem_cons.mpr ⟨lw_p12, List.forall_mem_cons.mpr ⟨lw_p13, List.forall_mem_cons.mpr ⟨lw_p14, List.forall_mem_cons.mpr ⟨lw_p15, fun _ h => absurd h List.not_mem_nil⟩⟩⟩⟩⟩⟩⟩⟩⟩⟩⟩⟩⟩⟩⟩⟩
theorem lw_p16 : lw_okq (⟨"TradeFloor$Exchange", "cancel", "(LTradeFloor$Order;)V"⟩, 5) := ⟨⟨by decide +kernel, by decide +kernel⟩, List.mem_of_getElem? (i := 96) (by decide +kernel), List.mem_of_getElem? (i := 446) (by decide +kernel), List.mem_of_getElem? (i := 447) (by decide +kernel)⟩
theorem lw_p17 : lw_okq (⟨"TradeFloor$Exchange", "hold", "(LTradeFloor$Order;I)V"⟩, 5) := ⟨⟨by decide +kernel, by decide +kernel⟩, List.mem_of_getElem? (i := 96) (by decide +kernel), List.mem_of_getElem? (i := 450) (by decide +kernel), List.mem_of_getElem? (i := 451) (by decide +kernel)⟩
theorem lw_p18 : lw_okq (⟨"TradeFloor$Exchange", "payable", "(LTradeFloor$Order;II)I"⟩, 5) := ⟨⟨by decide +kernel, by decide +kernel⟩, List.mem_of_getElem? (i := 96) (by decide +kernel), List.mem_of_getElem? (i := 457) (by decide +kernel), List.mem_of_getElem? (i := 458) (by decide +kernel)⟩
theorem lw_p19 : lw_okq (⟨"TradeFloor$Exchange", "settle", "(LTradeFloor$Order;LTradeFloor$Order;I)V"⟩, 5) := ⟨⟨by decide +kernel, by decide +kernel⟩, List.mem_of_getElem? (i := 96) (by decide +kernel), List.mem_of_getElem? (i := 464) (by decide +kernel), List.mem_of_getElem? (i := 465) (by decide +kernel)⟩
theorem lw_p20 : lw_okq (⟨"TradeFloor$Exchange", "placeAny", "(LTradeFloor$Command;)I"⟩, 5) := ⟨⟨by decide +kernel, by decide +kernel⟩, List.mem_of_getElem? (i := 96) (by decide +kernel), List.mem_of_getElem? (i := 472) (by decide +kernel), List.mem_of_getElem? (i := 473) (by decide +kernel)⟩
theorem lw_p21 : lw_okq (⟨"TradeFloor$Exchange", "placeStop", "(LTradeFloor$Command;)I"⟩, 5) := ⟨⟨by decide +kernel, by decide +kernel⟩, List.mem_of_getElem? (i := 96) (by decide +kernel), List.mem_of_getElem? (i := 476) (by decide +kernel), List.mem_of_getElem? (i := 477) (by decide +kernel)⟩
theorem lw_p22 : lw_okq (⟨"TradeFloor$Exchange", "cancelAsked", "(LTradeFloor$Command;)I"⟩, 5) := ⟨⟨by decide +kernel, by decide +kernel⟩, List.mem_of_getElem? (i := 96) (by decide +kernel), List.mem_of_getElem? (i := 480) (by decide +kernel), List.mem_of_getElem? (i := 481) (by decide +kernel)⟩
theorem lw_p23 : lw_okq (⟨"TradeFloor$Exchange", "refusalOfTarget", "(LTradeFloor$Command;)I"⟩, 5) := ⟨⟨by decide +kernel, by decide +kernel⟩, List.mem_of_getElem? (i := 96) (by decide +kernel), List.mem_of_getElem? (i := 484) (by decide +kernel), List.mem_of_getElem? (i := 485) (by decide +kernel)⟩
theorem lw_p24 : lw_okq (⟨"TradeFloor$Exchange", "lessen", "(LTradeFloor$Command;)I"⟩, 5) := ⟨⟨by decide +kernel, by decide +kernel⟩, List.mem_of_getElem? (i := 96) (by decide +kernel), List.mem_of_getElem? (i := 492) (by decide +kernel), List.mem_of_getElem? (i := 493) (by decide +kernel)⟩
theorem lw_p25 : lw_okq (⟨"TradeFloor$Exchange", "passTime", "(I)I"⟩, 5) := ⟨⟨by decide +kernel, by decide +kernel⟩, List.mem_of_getElem? (i := 96) (by decide +kernel), List.mem_of_getElem? (i := 496) (by decide +kernel), List.mem_of_getElem? (i := 497) (by decide +kernel)⟩
theorem lw_p26 : lw_okq (⟨"TradeFloor$Exchange", "endOrdersOfNow", "()I"⟩, 5) := ⟨⟨by decide +kernel, by decide +kernel⟩, List.mem_of_getElem? (i := 96) (by decide +kernel), List.mem_of_getElem? (i := 500) (by decide +kernel), List.mem_of_getElem? (i := 501) (by decide +kernel)⟩
theorem lw_p27 : lw_okq (⟨"TradeFloor$Orders", "nextPrice", "(II)I"⟩, 2) := ⟨⟨by decide +kernel, by decide +kernel⟩, List.mem_of_getElem? (i := 104) (by decide +kernel), List.mem_of_getElem? (i := 538) (by decide +kernel), List.mem_of_getElem? (i := 539) (by decide +kernel)⟩
theorem lw_p28 : lw_okq (⟨"TradeFloorModel", "taken", "()Z"⟩, 22) := ⟨⟨by decide +kernel, by decide +kernel⟩, List.mem_of_getElem? (i := 566) (by decide +kernel), List.mem_of_getElem? (i := 648) (by decide +kernel), List.mem_of_getElem? (i := 649) (by decide +kernel)⟩
theorem lw_p29 : lw_okq (⟨"TradeFloorModel", "done", "()I"⟩, 22) := ⟨⟨by decide +kernel, by decide +kernel⟩, List.mem_of_getElem? (i := 566) (by decide +kernel), List.mem_of_getElem? (i := 652) (by decide +kernel), List.mem_of_getElem? (i := 653) (by decide +kernel)⟩
theorem lw_p30 : lw_okq (⟨"TradeFloorModel", "is", "(ILjava/lang/String;)Z"⟩, 22) := ⟨⟨by decide +kernel, by decide +kernel⟩, List.mem_of_getElem? (i := 566) (by decide +kernel), List.mem_of_getElem? (i := 657) (by decide +kernel), List.mem_of_getElem? (i := 658) (by decide +kernel)⟩
theorem lw_p31 : lw_okq (⟨"TradeFloorModel", "whose", "(I)I"⟩, 22) := ⟨⟨by decide +kernel, by decide +kernel⟩, List.mem_of_getElem? (i := 566) (by decide +kernel), List.mem_of_getElem? (i := 665) (by decide +kernel), List.mem_of_getElem? (i := 666) (by decide +kernel)⟩
def lw_privs_2 : List (MethodName × Nat) := [(⟨"TradeFloor$Exchange", "cancel", "(LTradeFloor$Order;)V"⟩, 5), (⟨"TradeFloor$Exchange", "hold", "(LTradeFloor$Order;I)V"⟩, 5), (⟨"TradeFloor$Exchange", "payable", "(LTradeFloor$Order;II)I"⟩, 5), (⟨"TradeFloor$Exchange", "settle", "(LTradeFloor$Order;LTradeFloor$Order;I)V"⟩, 5), (⟨"TradeFloor$Exchange", "placeAny", "(LTradeFloor$Command;)I"⟩, 5), (⟨"TradeFloor$Exchange", "placeStop", "(LTradeFloor$Command;)I"⟩, 5), (⟨"TradeFloor$Exchange", "cancelAsked", "(LTradeFloor$Command;)I"⟩, 5), (⟨"TradeFloor$Exchange", "refusalOfTarget", "(LTradeFloor$Command;)I"⟩, 5), (⟨"TradeFloor$Exchange", "lessen", "(LTradeFloor$Command;)I"⟩, 5), (⟨"TradeFloor$Exchange", "passTime", "(I)I"⟩, 5), (⟨"TradeFloor$Exchange", "endOrdersOfNow", "()I"⟩, 5), (⟨"TradeFloor$Orders", "nextPrice", "(II)I"⟩, 2), (⟨"TradeFloorModel", "taken", "()Z"⟩, 22), (⟨"TradeFloorModel", "done", "()I"⟩, 22), (⟨"TradeFloorModel", "is", "(ILjava/lang/String;)Z"⟩, 22), (⟨"TradeFloorModel", "whose", "(I)I"⟩, 22)]
theorem lw_r2 : ∀ q ∈ lw_privs_2, lw_okq q := List.forall_mem_cons.mpr ⟨lw_p16, List.forall_mem_cons.mpr ⟨lw_p17, List.forall_mem_cons.mpr ⟨lw_p18, List.forall_mem_cons.mpr ⟨lw_p19, List.forall_mem_cons.mpr ⟨lw_p20, List.forall_mem_cons.mpr ⟨lw_p21, List.forall_mem_cons.mpr ⟨lw_p22, List.forall_mem_cons.mpr ⟨lw_p23, List.forall_mem_cons.mpr ⟨lw_p24, List.forall_mem_cons.mpr ⟨lw_p25, List.forall_mem_cons.mpr ⟨lw_p26, List.forall_mem_cons.mpr ⟨lw_p27, List.forall_mem_cons.mpr ⟨lw_p28, List.forall_mem_cons.mpr ⟨lw_p29, List.forall_mem_cons.mpr ⟨lw_p30, List.forall_mem_cons.mpr ⟨lw_p31, fun _ h => absurd h List.not_mem_nil⟩⟩⟩⟩⟩⟩⟩⟩⟩⟩⟩⟩⟩⟩⟩⟩
theorem lw_p32 : lw_okq (⟨"TradeFloorModel", "number", "(III)I"⟩, 22) := ⟨⟨by decide +kernel, by decide +kernel⟩, List.mem_of_getElem? (i := 566) (by decide +kernel), List.mem_of_getElem? (i := 669) (by decide +kernel), List.mem_of_getElem? (i := 670) (by decide +kernel)⟩
theorem lw_p33 : lw_okq (⟨"TradeFloorModel", "any", "(I)I"⟩, 22) := ⟨⟨by decide +kernel, by decide +kernel⟩, List.mem_of_getElem? (i := 566) (by decide +kernel), List.mem_of_getElem? (i := 673) (by decide +kernel), List.mem_of_getElem? (i := 674) (by decide +kernel)⟩
theorem lw_p34 : lw_okq (⟨"TradeFloorModel", "freeCash", "(I)J"⟩, 22) := ⟨⟨by decide +kernel, by decide +kernel⟩, List.mem_of_getElem? (i := 566) (by decide +kernel), List.mem_of_getElem? (i := 678) (by decide +kernel), List.mem_of_getElem? (i := 679) (by decide +kernel)⟩
theorem lw_p35 : lw_okq (⟨"TradeFloorModel", "heldCash", "(I)J"⟩, 22) := ⟨⟨by decide +kernel, by decide +kernel⟩, List.mem_of_getElem? (i := 566) (by decide +kernel), List.mem_of_getElem? (i := 682) (by decide +kernel), List.mem_of_getElem? (i := 683) (by decide +kernel)⟩
theorem lw_p36 : lw_okq (⟨"TradeFloorModel", "ordered", "(I)I"⟩, 22) := ⟨⟨by decide +kernel, by decide +kernel⟩, List.mem_of_getElem? (i := 566) (by decide +kernel), List.mem_of_getElem? (i := 688) (by decide +kernel), List.mem_of_getElem? (i := 689) (by decide +kernel)⟩
theorem lw_p37 : lw_okq (⟨"TradeFloorModel", "freeGoods", "(I)J"⟩, 22) := ⟨⟨by decide +kernel, by decide +kernel⟩, List.mem_of_getElem? (i := 566) (by decide +kernel), List.mem_of_getElem? (i := 693) (by decide +kernel), List.mem_of_getElem? (i := 694) (by decide +kernel)⟩
theorem lw_p38 : lw_okq (⟨"TradeFloorModel", "heldGoods", "(I)J"⟩, 22) := ⟨⟨by decide +kernel, by decide +kernel⟩, List.mem_of_getElem? (i := 566) (by decide +kernel), List.mem_of_getElem? (i := 697) (by decide +kernel), List.mem_of_getElem? (i := 698) (by decide +kernel)⟩
theorem lw_p39 : lw_okq (⟨"TradeFloorModel", "fresh", "(IIIII)I"⟩, 22) := ⟨⟨by decide +kernel, by decide +kernel⟩, List.mem_of_getElem? (i := 566) (by decide +kernel), List.mem_of_getElem? (i := 701) (by decide +kernel), List.mem_of_getElem? (i := 702) (by decide +kernel)⟩
theorem lw_p40 : lw_okq (⟨"TradeFloorModel", "meets", "(IIZ)V"⟩, 22) := ⟨⟨by decide +kernel, by decide +kernel⟩, List.mem_of_getElem? (i := 566) (by decide +kernel), List.mem_of_getElem? (i := 705) (by decide +kernel), List.mem_of_getElem? (i := 706) (by decide +kernel)⟩
theorem lw_p41 : lw_okq (⟨"TradeFloorModel", "match", "(II)I"⟩, 22) := ⟨⟨by decide +kernel, by decide +kernel⟩, List.mem_of_getElem? (i := 566) (by decide +kernel), List.mem_of_getElem? (i := 709) (by decide +kernel), List.mem_of_getElem? (i := 710) (by decide +kernel)⟩
theorem lw_p42 : lw_okq (⟨"TradeFloorModel", "isMatch", "(III)Z"⟩, 22) := ⟨⟨by decide +kernel, by decide +kernel⟩, List.mem_of_getElem? (i := 566) (by decide +kernel), List.mem_of_getElem? (i := 713) (by decide +kernel), List.mem_of_getElem? (i := 714) (by decide +kernel)⟩
theorem lw_p43 : lw_okq (⟨"TradeFloorModel", "sum", "(III)J"⟩, 22) := ⟨⟨by decide +kernel, by decide +kernel⟩, List.mem_of_getElem? (i := 566) (by decide +kernel), List.mem_of_getElem? (i := 724) (by decide +kernel), List.mem_of_getElem? (i := 725) (by decide +kernel)⟩
theorem lw_p44 : lw_okq (⟨"TradeFloorModel", "waking", "()I"⟩, 22) := ⟨⟨by decide +kernel, by decide +kernel⟩, List.mem_of_getElem? (i := 566) (by decide +kernel), List.mem_of_getElem? (i := 732) (by decide +kernel), List.mem_of_getElem? (i := 733) (by decide +kernel)⟩
def lw_privs_3 : List (MethodName × Nat) := [(⟨"TradeFloorModel", "number", "(III)I"⟩, 22), (⟨"TradeFloorModel", "any", "(I)I"⟩, 22), (⟨"TradeFloorModel", "freeCash", "(I)J"⟩, 22), (⟨"TradeFloorModel", "heldCash", "(I)J"⟩, 22), (⟨"TradeFloorModel", "ordered", "(I)I"⟩, 22), (⟨"TradeFloorModel", "freeGoods", "(I)J"⟩, 22), (⟨"TradeFloorModel", "heldGoods", "(I)J"⟩, 22), (⟨"TradeFloorModel", "fresh", "(IIIII)I"⟩, 22), (⟨"TradeFloorModel", "meets", "(IIZ)V"⟩, 22), (⟨"TradeFloorModel", "match", "(II)I"⟩, 22), (⟨"TradeFloorModel", "isMatch", "(III)Z"⟩, 22), (⟨"TradeFloorModel", "sum", "(III)J"⟩, 22), (⟨"TradeFloorModel", "waking", "()I"⟩, 22)]
theorem lw_r3 : ∀ q ∈ lw_privs_3, lw_okq q := List.forall_mem_cons.mpr ⟨lw_p32, List.forall_mem_cons.mpr ⟨lw_p33, List.forall_mem_cons.mpr ⟨lw_p34, List.forall_mem_cons.mpr ⟨lw_p35, List.forall_mem_cons.mpr ⟨lw_p36, List.forall_mem_cons.mpr ⟨lw_p37, List.forall_mem_cons.mpr ⟨lw_p38, List.forall_mem_cons.mpr ⟨lw_p39, List.forall_mem_cons.mpr ⟨lw_p40, List.forall_mem_cons.mpr ⟨lw_p41, List.forall_mem_cons.mpr ⟨lw_p42, List.forall_mem_cons.mpr ⟨lw_p43, List.forall_mem_cons.mpr ⟨lw_p44, fun _ h => absurd h List.not_mem_nil⟩⟩⟩⟩⟩⟩⟩⟩⟩⟩⟩⟩⟩
def lw_privs : List (MethodName × Nat) := lw_privs_1 ++ (lw_privs_2 ++ (lw_privs_3))
def lw_tbl : List Cond := k2_sels lw_privs ++ tables_1
theorem lw_privs_ok : ∀ q ∈ lw_privs, lw_okq q := by
  show ∀ q ∈ lw_privs_1 ++ (lw_privs_2 ++ (lw_privs_3)), lw_okq q
  exact List.forall_mem_append.mpr ⟨lw_r1, List.forall_mem_append.mpr ⟨lw_r2, lw_r3⟩⟩
end
section
def R0 : String := "TradeFloor$Account"
def T0 : u_T := fun k => match k with
  | 0 => ("TradeFloor$Account", "cash", "J", false)
  | 1 => ("TradeFloor$Account", "goods", "J", false)
  | 2 => ("TradeFloor$Account", "heldCash", "J", false)
  | _ => ("TradeFloor$Account", "heldGoods", "J", false)
def ty0 : Nat → FieldType := fun k => match k with
  | 0 => .long
  | 1 => .long
  | 2 => .long
  | _ => .long
theorem nm0 : ∀ a, a < 4 → ∀ b, b < 4 → a ≠ b → (T0 a).2.1 ≠ (T0 b).2.1 := by decide +kernel
theorem tk0 : ∀ k, k < 4 → parseFieldDescriptor (T0 k).2.2.1 = some (ty0 k) := by decide +kernel
def R1 : String := "TradeFloor$Command"
def T1 : u_T := fun k => match k with
  | 0 => ("TradeFloor$Command", "verb", "I", false)
  | 1 => ("TradeFloor$Command", "owner", "I", false)
  | 2 => ("TradeFloor$Command", "side", "I", false)
  | 3 => ("TradeFloor$Command", "quantity", "I", false)
  | 4 => ("TradeFloor$Command", "price", "I", false)
  | 5 => ("TradeFloor$Command", "way", "I", false)
  | 6 => ("TradeFloor$Command", "ticks", "I", false)
  | 7 => ("TradeFloor$Command", "target", "I", false)
  | _ => ("TradeFloor$Command", "amount", "I", false)
def ty1 : Nat → FieldType := fun k => match k with
  | 0 => .int
  | 1 => .int
  | 2 => .int
  | 3 => .int
  | 4 => .int
  | 5 => .int
  | 6 => .int
  | 7 => .int
  | _ => .int
theorem nm1 : ∀ a, a < 9 → ∀ b, b < 9 → a ≠ b → (T1 a).2.1 ≠ (T1 b).2.1 := by decide +kernel
theorem tk1 : ∀ k, k < 9 → parseFieldDescriptor (T1 k).2.2.1 = some (ty1 k) := by decide +kernel
def R2 : String := "TradeFloor$Exchange"
def T2 : u_T := fun k => match k with
  | 0 => ("TradeFloor$Exchange", "accounts", "[LTradeFloor$Account;", true)
  | 1 => ("TradeFloor$Exchange", "orders", "LTradeFloor$Orders;", true)
  | 2 => ("TradeFloor$Exchange", "trades", "LTradeFloor$Trades;", true)
  | 3 => ("TradeFloor$Exchange", "last", "I", false)
  | _ => ("TradeFloor$Exchange", "now", "I", false)
def ty2 : Nat → FieldType := fun k => match k with
  | 0 => .array (.object "TradeFloor$Account")
  | 1 => .object "TradeFloor$Orders"
  | 2 => .object "TradeFloor$Trades"
  | 3 => .int
  | _ => .int
theorem nm2 : ∀ a, a < 5 → ∀ b, b < 5 → a ≠ b → (T2 a).2.1 ≠ (T2 b).2.1 := by decide +kernel
theorem tk2 : ∀ k, k < 5 → parseFieldDescriptor (T2 k).2.2.1 = some (ty2 k) := by decide +kernel
def R3 : String := "TradeFloor$Order"
def T3 : u_T := fun k => match k with
  | 0 => ("TradeFloor$Order", "owner", "I", false)
  | 1 => ("TradeFloor$Order", "side", "I", false)
  | 2 => ("TradeFloor$Order", "left", "I", false)
  | 3 => ("TradeFloor$Order", "price", "I", false)
  | 4 => ("TradeFloor$Order", "state", "I", false)
  | _ => ("TradeFloor$Order", "end", "I", false)
def ty3 : Nat → FieldType := fun k => match k with
  | 0 => .int
  | 1 => .int
  | 2 => .int
  | 3 => .int
  | 4 => .int
  | _ => .int
theorem nm3 : ∀ a, a < 6 → ∀ b, b < 6 → a ≠ b → (T3 a).2.1 ≠ (T3 b).2.1 := by decide +kernel
theorem tk3 : ∀ k, k < 6 → parseFieldDescriptor (T3 k).2.2.1 = some (ty3 k) := by decide +kernel
def R4 : String := "TradeFloor$Orders"
def T4 : u_T := fun k => match k with
  | 0 => ("TradeFloor$Orders", "rows", "[LTradeFloor$Order;", true)
  | _ => ("TradeFloor$Orders", "size", "I", false)
def ty4 : Nat → FieldType := fun k => match k with
  | 0 => .array (.object "TradeFloor$Order")
  | _ => .int
theorem nm4 : ∀ a, a < 2 → ∀ b, b < 2 → a ≠ b → (T4 a).2.1 ≠ (T4 b).2.1 := by decide +kernel
theorem tk4 : ∀ k, k < 2 → parseFieldDescriptor (T4 k).2.2.1 = some (ty4 k) := by decide +kernel
def R5 : String := "TradeFloor$Tape"
def T5 : u_T := fun k => match k with
  | 0 => ("TradeFloor$Tape", "signs", "[I", true)
  | 1 => ("TradeFloor$Tape", "starts", "[I", true)
  | 2 => ("TradeFloor$Tape", "ends", "[I", true)
  | 3 => ("TradeFloor$Tape", "size", "I", false)
  | _ => ("TradeFloor$Tape", "words", "I", false)
def ty5 : Nat → FieldType := fun k => match k with
  | 0 => .array .int
  | 1 => .array .int
  | 2 => .array .int
  | 3 => .int
  | _ => .int
theorem nm5 : ∀ a, a < 5 → ∀ b, b < 5 → a ≠ b → (T5 a).2.1 ≠ (T5 b).2.1 := by decide +kernel
theorem tk5 : ∀ k, k < 5 → parseFieldDescriptor (T5 k).2.2.1 = some (ty5 k) := by decide +kernel
def R6 : String := "TradeFloor$Trades"
def T6 : u_T := fun k => match k with
  | 0 => ("TradeFloor$Trades", "buyers", "[I", true)
  | 1 => ("TradeFloor$Trades", "sellers", "[I", true)
  | 2 => ("TradeFloor$Trades", "prices", "[I", true)
  | 3 => ("TradeFloor$Trades", "quantities", "[I", true)
  | _ => ("TradeFloor$Trades", "made", "I", false)
def ty6 : Nat → FieldType := fun k => match k with
  | 0 => .array .int
  | 1 => .array .int
  | 2 => .array .int
  | 3 => .array .int
  | _ => .int
theorem nm6 : ∀ a, a < 5 → ∀ b, b < 5 → a ≠ b → (T6 a).2.1 ≠ (T6 b).2.1 := by decide +kernel
theorem tk6 : ∀ k, k < 5 → parseFieldDescriptor (T6 k).2.2.1 = some (ty6 k) := by decide +kernel
def R7 : String := "TradeFloor"
def T7 : u_T := fun k => match k with
  | 0 => ("TradeFloor", "tape", "LTradeFloor$Tape;", true)
  | 1 => ("TradeFloor", "command", "LTradeFloor$Command;", true)
  | 2 => ("TradeFloor", "exchange", "LTradeFloor$Exchange;", true)
  | _ => ("TradeFloor", "refusals", "I", false)
def ty7 : Nat → FieldType := fun k => match k with
  | 0 => .object "TradeFloor$Tape"
  | 1 => .object "TradeFloor$Command"
  | 2 => .object "TradeFloor$Exchange"
  | _ => .int
theorem nm7 : ∀ a, a < 4 → ∀ b, b < 4 → a ≠ b → (T7 a).2.1 ≠ (T7 b).2.1 := by decide +kernel
theorem tk7 : ∀ k, k < 4 → parseFieldDescriptor (T7 k).2.2.1 = some (ty7 k) := by decide +kernel
def R8 : String := "TradeFloorModel"
def T8 : u_T := fun k => match k with
  | 0 => ("TradeFloorModel", "tape", "[I", true)
  | 1 => ("TradeFloorModel", "from", "[I", true)
  | 2 => ("TradeFloorModel", "to", "[I", true)
  | 3 => ("TradeFloorModel", "size", "I", false)
  | 4 => ("TradeFloorModel", "words", "I", false)
  | 5 => ("TradeFloorModel", "cash", "[J", true)
  | 6 => ("TradeFloorModel", "goods", "[J", true)
  | 7 => ("TradeFloorModel", "who", "[I", true)
  | 8 => ("TradeFloorModel", "side", "[I", true)
  | 9 => ("TradeFloorModel", "left", "[I", true)
  | 10 => ("TradeFloorModel", "price", "[I", true)
  | 11 => ("TradeFloorModel", "state", "[I", true)
  | 12 => ("TradeFloorModel", "ends", "[I", true)
  | 13 => ("TradeFloorModel", "orders", "I", false)
  | 14 => ("TradeFloorModel", "trades", "I", false)
  | 15 => ("TradeFloorModel", "refusals", "I", false)
  | 16 => ("TradeFloorModel", "last", "I", false)
  | 17 => ("TradeFloorModel", "now", "I", false)
  | 18 => ("TradeFloorModel", "buyer", "[I", true)
  | 19 => ("TradeFloorModel", "seller", "[I", true)
  | 20 => ("TradeFloorModel", "paid", "[I", true)
  | _ => ("TradeFloorModel", "many", "[I", true)
def ty8 : Nat → FieldType := fun k => match k with
  | 0 => .array .int
  | 1 => .array .int
  | 2 => .array .int
  | 3 => .int
  | 4 => .int
  | 5 => .array .long
  | 6 => .array .long
  | 7 => .array .int
  | 8 => .array .int
  | 9 => .array .int
  | 10 => .array .int
  | 11 => .array .int
  | 12 => .array .int
  | 13 => .int
  | 14 => .int
  | 15 => .int
  | 16 => .int
  | 17 => .int
  | 18 => .array .int
  | 19 => .array .int
  | 20 => .array .int
  | _ => .array .int
theorem nm8 : ∀ a, a < 22 → ∀ b, b < 22 → a ≠ b → (T8 a).2.1 ≠ (T8 b).2.1 := by decide +kernel
theorem tk8 : ∀ k, k < 22 → parseFieldDescriptor (T8 k).2.2.1 = some (ty8 k) := by decide +kernel
abbrev cK0_init : ByteArray := prog_2_method_1_code
abbrev yK0_init : MethodName := ⟨"TradeFloor$Account", "<init>", "()V"⟩
abbrev cK0_freeCash : ByteArray := prog_2_method_2_code
abbrev yK0_freeCash : MethodName := ⟨"TradeFloor$Account", "freeCash", "()J"⟩
abbrev cK0_freeGoods : ByteArray := prog_2_method_3_code
abbrev yK0_freeGoods : MethodName := ⟨"TradeFloor$Account", "freeGoods", "()J"⟩
abbrev cK1_init : ByteArray := prog_3_method_1_code
abbrev yK1_init : MethodName := ⟨"TradeFloor$Command", "<init>", "()V"⟩
abbrev cK1_read : ByteArray := prog_3_method_2_code
abbrev yK1_read : MethodName := ⟨"TradeFloor$Command", "read", "(LTradeFloor$Tape;)V"⟩
abbrev cK1_readAmount : ByteArray := prog_3_method_3_code
abbrev yK1_readAmount : MethodName := ⟨"TradeFloor$Command", "readAmount", "(LTradeFloor$Tape;I)I"⟩
abbrev cK1_readOrder : ByteArray := prog_3_method_4_code
abbrev yK1_readOrder : MethodName := ⟨"TradeFloor$Command", "readOrder", "(LTradeFloor$Tape;)I"⟩
abbrev cK1_readStop : ByteArray := prog_3_method_5_code
abbrev yK1_readStop : MethodName := ⟨"TradeFloor$Command", "readStop", "(LTradeFloor$Tape;)I"⟩
abbrev cK1_readCancel : ByteArray := prog_3_method_6_code
abbrev yK1_readCancel : MethodName := ⟨"TradeFloor$Command", "readCancel", "(LTradeFloor$Tape;)I"⟩
abbrev cK1_readLess : ByteArray := prog_3_method_7_code
abbrev yK1_readLess : MethodName := ⟨"TradeFloor$Command", "readLess", "(LTradeFloor$Tape;)I"⟩
abbrev cK1_readTick : ByteArray := prog_3_method_8_code
abbrev yK1_readTick : MethodName := ⟨"TradeFloor$Command", "readTick", "(LTradeFloor$Tape;)I"⟩
abbrev cK1_readBasics : ByteArray := prog_3_method_9_code
abbrev yK1_readBasics : MethodName := ⟨"TradeFloor$Command", "readBasics", "(LTradeFloor$Tape;I)Z"⟩
abbrev cK1_readOwner : ByteArray := prog_3_method_10_code
abbrev yK1_readOwner : MethodName := ⟨"TradeFloor$Command", "readOwner", "(LTradeFloor$Tape;I)Z"⟩
abbrev cK1_readPrice : ByteArray := prog_3_method_11_code
abbrev yK1_readPrice : MethodName := ⟨"TradeFloor$Command", "readPrice", "(LTradeFloor$Tape;I)Z"⟩
abbrev cK1_readTicks : ByteArray := prog_3_method_12_code
abbrev yK1_readTicks : MethodName := ⟨"TradeFloor$Command", "readTicks", "(LTradeFloor$Tape;I)Z"⟩
abbrev cK1_readWay : ByteArray := prog_3_method_13_code
abbrev yK1_readWay : MethodName := ⟨"TradeFloor$Command", "readWay", "(LTradeFloor$Tape;I)Z"⟩
abbrev cK2_init : ByteArray := prog_4_method_1_code
abbrev yK2_init : MethodName := ⟨"TradeFloor$Exchange", "<init>", "()V"⟩
abbrev cK2_perform : ByteArray := prog_4_method_2_code
abbrev yK2_perform : MethodName := ⟨"TradeFloor$Exchange", "perform", "(LTradeFloor$Command;)I"⟩
abbrev cK2_moveAmount : ByteArray := prog_4_method_3_code
abbrev yK2_moveAmount : MethodName := ⟨"TradeFloor$Exchange", "moveAmount", "(LTradeFloor$Command;)I"⟩
abbrev cK2_placeLimit : ByteArray := prog_4_method_4_code
abbrev yK2_placeLimit : MethodName := ⟨"TradeFloor$Exchange", "placeLimit", "(LTradeFloor$Command;)I"⟩
abbrev cK2_placeAny : ByteArray := prog_4_method_5_code
abbrev yK2_placeAny : MethodName := ⟨"TradeFloor$Exchange", "placeAny", "(LTradeFloor$Command;)I"⟩
abbrev cK2_placeStop : ByteArray := prog_4_method_6_code
abbrev yK2_placeStop : MethodName := ⟨"TradeFloor$Exchange", "placeStop", "(LTradeFloor$Command;)I"⟩
abbrev cK2_hasFunds : ByteArray := prog_4_method_7_code
abbrev yK2_hasFunds : MethodName := ⟨"TradeFloor$Exchange", "hasFunds", "(LTradeFloor$Command;)Z"⟩
abbrev cK2_findsItsMatches : ByteArray := prog_4_method_8_code
abbrev yK2_findsItsMatches : MethodName := ⟨"TradeFloor$Exchange", "findsItsMatches", "(LTradeFloor$Command;)Z"⟩
abbrev cK2_meet : ByteArray := prog_4_method_9_code
abbrev yK2_meet : MethodName := ⟨"TradeFloor$Exchange", "meet", "(LTradeFloor$Order;II)V"⟩
abbrev cK2_payable : ByteArray := prog_4_method_10_code
abbrev yK2_payable : MethodName := ⟨"TradeFloor$Exchange", "payable", "(LTradeFloor$Order;II)I"⟩
abbrev cK2_settle : ByteArray := prog_4_method_11_code
abbrev yK2_settle : MethodName := ⟨"TradeFloor$Exchange", "settle", "(LTradeFloor$Order;LTradeFloor$Order;I)V"⟩
abbrev cK2_hold : ByteArray := prog_4_method_12_code
abbrev yK2_hold : MethodName := ⟨"TradeFloor$Exchange", "hold", "(LTradeFloor$Order;I)V"⟩
abbrev cK2_cancel : ByteArray := prog_4_method_13_code
abbrev yK2_cancel : MethodName := ⟨"TradeFloor$Exchange", "cancel", "(LTradeFloor$Order;)V"⟩
abbrev cK2_cancelAsked : ByteArray := prog_4_method_14_code
abbrev yK2_cancelAsked : MethodName := ⟨"TradeFloor$Exchange", "cancelAsked", "(LTradeFloor$Command;)I"⟩
abbrev cK2_lessen : ByteArray := prog_4_method_15_code
abbrev yK2_lessen : MethodName := ⟨"TradeFloor$Exchange", "lessen", "(LTradeFloor$Command;)I"⟩
abbrev cK2_refusalOfTarget : ByteArray := prog_4_method_16_code
abbrev yK2_refusalOfTarget : MethodName := ⟨"TradeFloor$Exchange", "refusalOfTarget", "(LTradeFloor$Command;)I"⟩
abbrev cK2_passTime : ByteArray := prog_4_method_17_code
abbrev yK2_passTime : MethodName := ⟨"TradeFloor$Exchange", "passTime", "(I)I"⟩
abbrev cK2_endOrdersOfNow : ByteArray := prog_4_method_18_code
abbrev yK2_endOrdersOfNow : MethodName := ⟨"TradeFloor$Exchange", "endOrdersOfNow", "()I"⟩
abbrev cK2_wakeStops : ByteArray := prog_4_method_19_code
abbrev yK2_wakeStops : MethodName := ⟨"TradeFloor$Exchange", "wakeStops", "()V"⟩
abbrev cK3_init : ByteArray := prog_5_method_1_code
abbrev yK3_init : MethodName := ⟨"TradeFloor$Order", "<init>", "()V"⟩
abbrev cK4_init : ByteArray := prog_6_method_1_code
abbrev yK4_init : MethodName := ⟨"TradeFloor$Orders", "<init>", "()V"⟩
abbrev cK4_has : ByteArray := prog_6_method_2_code
abbrev yK4_has : MethodName := ⟨"TradeFloor$Orders", "has", "(I)Z"⟩
abbrev cK4_isFull : ByteArray := prog_6_method_3_code
abbrev yK4_isFull : MethodName := ⟨"TradeFloor$Orders", "isFull", "()Z"⟩
abbrev cK4_enter : ByteArray := prog_6_method_4_code
abbrev yK4_enter : MethodName := ⟨"TradeFloor$Orders", "enter", "(LTradeFloor$Command;)I"⟩
abbrev cK4_firstMatch : ByteArray := prog_6_method_5_code
abbrev yK4_firstMatch : MethodName := ⟨"TradeFloor$Orders", "firstMatch", "(II)LTradeFloor$Order;"⟩
abbrev cK4_matchesOfOthers : ByteArray := prog_6_method_6_code
abbrev yK4_matchesOfOthers : MethodName := ⟨"TradeFloor$Orders", "matchesOfOthers", "(III)I"⟩
abbrev cK4_isMatch : ByteArray := prog_6_method_7_code
abbrev yK4_isMatch : MethodName := ⟨"TradeFloor$Orders", "isMatch", "(LTradeFloor$Order;II)Z"⟩
abbrev cK4_isInBook : ByteArray := prog_6_method_8_code
abbrev yK4_isInBook : MethodName := ⟨"TradeFloor$Orders", "isInBook", "(LTradeFloor$Order;I)Z"⟩
abbrev cK4_isBetter : ByteArray := prog_6_method_9_code
abbrev yK4_isBetter : MethodName := ⟨"TradeFloor$Orders", "isBetter", "(III)Z"⟩
abbrev cK4_firstWakingStop : ByteArray := prog_6_method_10_code
abbrev yK4_firstWakingStop : MethodName := ⟨"TradeFloor$Orders", "firstWakingStop", "(I)LTradeFloor$Order;"⟩
abbrev cK4_wakes : ByteArray := prog_6_method_11_code
abbrev yK4_wakes : MethodName := ⟨"TradeFloor$Orders", "wakes", "(LTradeFloor$Order;I)Z"⟩
abbrev cK4_waitingOf : ByteArray := prog_6_method_12_code
abbrev yK4_waitingOf : MethodName := ⟨"TradeFloor$Orders", "waitingOf", "(I)I"⟩
abbrev cK4_sleepingStops : ByteArray := prog_6_method_13_code
abbrev yK4_sleepingStops : MethodName := ⟨"TradeFloor$Orders", "sleepingStops", "()I"⟩
abbrev cK4_priceAt : ByteArray := prog_6_method_14_code
abbrev yK4_priceAt : MethodName := ⟨"TradeFloor$Orders", "priceAt", "(II)I"⟩
abbrev cK4_nextPrice : ByteArray := prog_6_method_15_code
abbrev yK4_nextPrice : MethodName := ⟨"TradeFloor$Orders", "nextPrice", "(II)I"⟩
abbrev cK4_leftAt : ByteArray := prog_6_method_16_code
abbrev yK4_leftAt : MethodName := ⟨"TradeFloor$Orders", "leftAt", "(II)I"⟩
abbrev cK4_ordersAt : ByteArray := prog_6_method_17_code
abbrev yK4_ordersAt : MethodName := ⟨"TradeFloor$Orders", "ordersAt", "(II)I"⟩
abbrev cK5_init : ByteArray := prog_7_method_1_code
abbrev yK5_init : MethodName := ⟨"TradeFloor$Tape", "<init>", "()V"⟩
abbrev cK5_add : ByteArray := prog_7_method_2_code
abbrev yK5_add : MethodName := ⟨"TradeFloor$Tape", "add", "(I)I"⟩
abbrev cK5_signsOf : ByteArray := prog_7_method_3_code
abbrev yK5_signsOf : MethodName := ⟨"TradeFloor$Tape", "signsOf", "(I)I"⟩
abbrev cK5_clear : ByteArray := prog_7_method_4_code
abbrev yK5_clear : MethodName := ⟨"TradeFloor$Tape", "clear", "()V"⟩
abbrev cK5_cutIntoWords : ByteArray := prog_7_method_5_code
abbrev yK5_cutIntoWords : MethodName := ⟨"TradeFloor$Tape", "cutIntoWords", "()Z"⟩
abbrev cK5_says : ByteArray := prog_7_method_6_code
abbrev yK5_says : MethodName := ⟨"TradeFloor$Tape", "says", "(ILjava/lang/String;)Z"⟩
abbrev cK5_numberFrom : ByteArray := prog_7_method_7_code
abbrev yK5_numberFrom : MethodName := ⟨"TradeFloor$Tape", "numberFrom", "(III)I"⟩
abbrev cK5_number : ByteArray := prog_7_method_8_code
abbrev yK5_number : MethodName := ⟨"TradeFloor$Tape", "number", "(I)I"⟩
abbrev cK6_init : ByteArray := prog_8_method_1_code
abbrev yK6_init : MethodName := ⟨"TradeFloor$Trades", "<init>", "()V"⟩
abbrev cK6_add : ByteArray := prog_8_method_2_code
abbrev yK6_add : MethodName := ⟨"TradeFloor$Trades", "add", "(IIII)V"⟩
abbrev cK6_look : ByteArray := prog_8_method_3_code
abbrev yK6_look : MethodName := ⟨"TradeFloor$Trades", "look", "(II)I"⟩
abbrev cK7_init : ByteArray := prog_1_method_1_code
abbrev yK7_init : MethodName := ⟨"TradeFloor", "<init>", "()V"⟩
abbrev cK7_feed : ByteArray := prog_1_method_2_code
abbrev yK7_feed : MethodName := ⟨"TradeFloor", "feed", "(I)I"⟩
abbrev cK7_line : ByteArray := prog_1_method_3_code
abbrev yK7_line : MethodName := ⟨"TradeFloor", "line", "()I"⟩
abbrev cK7_order : ByteArray := prog_1_method_4_code
abbrev yK7_order : MethodName := ⟨"TradeFloor", "order", "(II)I"⟩
abbrev cK7_trader : ByteArray := prog_1_method_5_code
abbrev yK7_trader : MethodName := ⟨"TradeFloor", "trader", "(II)J"⟩
abbrev cK7_level : ByteArray := prog_1_method_6_code
abbrev yK7_level : MethodName := ⟨"TradeFloor", "level", "(III)I"⟩
abbrev cK7_trade : ByteArray := prog_1_method_7_code
abbrev yK7_trade : MethodName := ⟨"TradeFloor", "trade", "(II)I"⟩
abbrev cK7_count : ByteArray := prog_1_method_8_code
abbrev yK7_count : MethodName := ⟨"TradeFloor", "count", "(I)I"⟩
abbrev cK8_init : ByteArray := prog_10_method_1_code
abbrev yK8_init : MethodName := ⟨"TradeFloorModel", "<init>", "()V"⟩
abbrev cK8_feed : ByteArray := prog_10_method_3_code
abbrev yK8_feed : MethodName := ⟨"TradeFloorModel", "feed", "(I)I"⟩
abbrev cK8_taken : ByteArray := prog_10_method_4_code
abbrev yK8_taken : MethodName := ⟨"TradeFloorModel", "taken", "()Z"⟩
abbrev cK8_is : ByteArray := prog_10_method_5_code
abbrev yK8_is : MethodName := ⟨"TradeFloorModel", "is", "(ILjava/lang/String;)Z"⟩
abbrev cK8_number : ByteArray := prog_10_method_6_code
abbrev yK8_number : MethodName := ⟨"TradeFloorModel", "number", "(III)I"⟩
abbrev cK8_any : ByteArray := prog_10_method_7_code
abbrev yK8_any : MethodName := ⟨"TradeFloorModel", "any", "(I)I"⟩
abbrev cK8_whose : ByteArray := prog_10_method_8_code
abbrev yK8_whose : MethodName := ⟨"TradeFloorModel", "whose", "(I)I"⟩
abbrev cK8_line : ByteArray := prog_10_method_9_code
abbrev yK8_line : MethodName := ⟨"TradeFloorModel", "line", "()I"⟩
abbrev cK8_waking : ByteArray := prog_10_method_10_code
abbrev yK8_waking : MethodName := ⟨"TradeFloorModel", "waking", "()I"⟩
abbrev cK8_done : ByteArray := prog_10_method_11_code
abbrev yK8_done : MethodName := ⟨"TradeFloorModel", "done", "()I"⟩
abbrev cK8_fresh : ByteArray := prog_10_method_12_code
abbrev yK8_fresh : MethodName := ⟨"TradeFloorModel", "fresh", "(IIIII)I"⟩
abbrev cK8_heldCash : ByteArray := prog_10_method_13_code
abbrev yK8_heldCash : MethodName := ⟨"TradeFloorModel", "heldCash", "(I)J"⟩
abbrev cK8_heldGoods : ByteArray := prog_10_method_14_code
abbrev yK8_heldGoods : MethodName := ⟨"TradeFloorModel", "heldGoods", "(I)J"⟩
abbrev cK8_freeCash : ByteArray := prog_10_method_15_code
abbrev yK8_freeCash : MethodName := ⟨"TradeFloorModel", "freeCash", "(I)J"⟩
abbrev cK8_freeGoods : ByteArray := prog_10_method_16_code
abbrev yK8_freeGoods : MethodName := ⟨"TradeFloorModel", "freeGoods", "(I)J"⟩
abbrev cK8_ordered : ByteArray := prog_10_method_17_code
abbrev yK8_ordered : MethodName := ⟨"TradeFloorModel", "ordered", "(I)I"⟩
abbrev cK8_isMatch : ByteArray := prog_10_method_18_code
abbrev yK8_isMatch : MethodName := ⟨"TradeFloorModel", "isMatch", "(III)Z"⟩
abbrev cK8_match : ByteArray := prog_10_method_19_code
abbrev yK8_match : MethodName := ⟨"TradeFloorModel", "match", "(II)I"⟩
abbrev cK8_sum : ByteArray := prog_10_method_20_code
abbrev yK8_sum : MethodName := ⟨"TradeFloorModel", "sum", "(III)J"⟩
abbrev cK8_meets : ByteArray := prog_10_method_21_code
abbrev yK8_meets : MethodName := ⟨"TradeFloorModel", "meets", "(IIZ)V"⟩
abbrev cK8_order : ByteArray := prog_10_method_22_code
abbrev yK8_order : MethodName := ⟨"TradeFloorModel", "order", "(II)I"⟩
abbrev cK8_trader : ByteArray := prog_10_method_23_code
abbrev yK8_trader : MethodName := ⟨"TradeFloorModel", "trader", "(II)J"⟩
abbrev cK8_level : ByteArray := prog_10_method_24_code
abbrev yK8_level : MethodName := ⟨"TradeFloorModel", "level", "(III)I"⟩
abbrev cK8_trade : ByteArray := prog_10_method_25_code
abbrev yK8_trade : MethodName := ⟨"TradeFloorModel", "trade", "(II)I"⟩
abbrev cK8_count : ByteArray := prog_10_method_26_code
abbrev yK8_count : MethodName := ⟨"TradeFloorModel", "count", "(I)I"⟩
abbrev cJS_length : ByteArray := prog_12_method_54_code
abbrev yJS_length : MethodName := ⟨"java/lang/String", "length", "()I"⟩
abbrev cJS_coder : ByteArray := prog_12_method_152_code
abbrev yJS_coder : MethodName := ⟨"java/lang/String", "coder", "()B"⟩
abbrev cJS_charAt : ByteArray := prog_12_method_56_code
abbrev yJS_charAt : MethodName := ⟨"java/lang/String", "charAt", "(I)C"⟩
abbrev cJS_isLatin1 : ByteArray := prog_12_method_154_code
abbrev yJS_isLatin1 : MethodName := ⟨"java/lang/String", "isLatin1", "()Z"⟩
abbrev cJL_charAt : ByteArray := prog_13_method_2_code
abbrev yJL_charAt : MethodName := ⟨"java/lang/StringLatin1", "charAt", "([BI)C"⟩
abbrev cJS_checkIndex : ByteArray := prog_12_method_155_code
abbrev yJS_checkIndex : MethodName := ⟨"java/lang/String", "checkIndex", "(II)V"⟩
abbrev vCl : List vw_C := [("TradeFloor$Account", T0, 4), ("TradeFloor$Command", T1, 9), ("TradeFloor$Exchange", T2, 5), ("TradeFloor$Order", T3, 6), ("TradeFloor$Orders", T4, 2), ("TradeFloor$Tape", T5, 5), ("TradeFloor$Trades", T6, 5), ("TradeFloor", T7, 4), ("TradeFloorModel", T8, 22)]
abbrev nJS : Nat := 30
def lenJS : List Nat := [3, 4, 3, 2, 5, 3, 3, 4, 4, 4, 5, 4, 6, 4, 4, 4, 5, 4, 3, 4, 3, 2, 3, 3, 4, 5, 4, 6, 4, 4]
def bytJS : List (List Int32) := [[98, 117, 121], [115, 101, 108, 108], [97, 110, 121], [97, 116], [117, 110, 116, 105, 108], [110, 111, 119], [97, 108, 108], [112, 111, 115, 116], [115, 116, 111, 112], [99, 97, 115, 104], [103, 111, 111, 100, 115], [116, 97, 107, 101], [99, 97, 110, 99, 101, 108], [108, 101, 115, 115], [116, 105, 99, 107], [99, 97, 115, 104], [103, 111, 111, 100, 115], [116, 97, 107, 101], [98, 117, 121], [115, 101, 108, 108], [97, 110, 121], [97, 116], [110, 111, 119], [97, 108, 108], [112, 111, 115, 116], [117, 110, 116, 105, 108], [115, 116, 111, 112], [99, 97, 110, 99, 101, 108], [108, 101, 115, 115], [116, 105, 99, 107]]
def ownJS : List String := ["TradeFloor$Command", "TradeFloor$Command", "TradeFloor$Command", "TradeFloor$Command", "TradeFloor$Command", "TradeFloor$Command", "TradeFloor$Command", "TradeFloor$Command", "TradeFloor$Command", "TradeFloor$Command", "TradeFloor$Command", "TradeFloor$Command", "TradeFloor$Command", "TradeFloor$Command", "TradeFloor$Command", "TradeFloorModel", "TradeFloorModel", "TradeFloorModel", "TradeFloorModel", "TradeFloorModel", "TradeFloorModel", "TradeFloorModel", "TradeFloorModel", "TradeFloorModel", "TradeFloorModel", "TradeFloorModel", "TradeFloorModel", "TradeFloorModel", "TradeFloorModel", "TradeFloorModel"]
def idxJS : List Nat := [21, 27, 80, 110, 115, 120, 122, 124, 33, 38, 44, 46, 48, 53, 58, 111, 116, 117, 129, 131, 159, 138, 160, 161, 163, 165, 136, 144, 146, 148]
def txtJS : List String := ["buy", "sell", "any", "at", "until", "now", "all", "post", "stop", "cash", "goods", "take", "cancel", "less", "tick", "cash", "goods", "take", "buy", "sell", "any", "at", "now", "all", "post", "until", "stop", "cancel", "less", "tick"]
end
section
/-! words, worlds of fixed form, rows over them -/
def gT : List Cond := lw_tbl.filter goodWord
theorem gmem {w : Cond} (i : Nat) (h : lw_tbl[i]? = some w) (hg : goodWord w = true) : w ∈ gT := List.mem_filter.mpr ⟨List.mem_of_getElem? h, hg⟩
theorem gGood {y : MethodName} {b : ByteArray} {n : Nat} {r : Option FieldType} (h : Cond.code y b n r ∈ gT) : GoodIn gT (Cond.code y b n r :: gT) := fun w hw => by
  have hm : w ∈ gT := by
    rcases List.mem_cons.mp hw with h2 | h2
    · rw [h2]; exact h
    · exact h2
  exact ⟨hm, good_of_word (List.mem_filter.mp hm).2⟩
abbrev FI : Type := Nat → Nat → Int32
abbrev FL : Type := Nat → Nat → Int64
def sI (I : FI) (f j : Nat) (v : Int32) : FI := fun a b => if a = f ∧ b = j then v else I a b
def sL (L : FL) (f j : Nat) (v : Int64) : FL := fun a b => if a = f ∧ b = j then v else L a b
theorem sI_row {I : FI} {f j : Nat} {v : Int32} {a : Nat} (h : a ≠ f) : sI I f j v a = I a := by funext b; simp [sI, h]
theorem sI_upd {I : FI} {f j : Nat} {v : Int32} : sI I f j v f = upd (I f) j v := by funext b; simp [sI, upd]
theorem sI_at {I : FI} {f j : Nat} {v : Int32} {a b : Nat} (h : ¬ (a = f ∧ b = j)) : sI I f j v a b = I a b := by simp only [sI, if_neg h]
theorem sI_eq {I : FI} {f j : Nat} {v : Int32} : sI I f j v f j = v := by simp [sI]
theorem sL_row {L : FL} {f j : Nat} {v : Int64} {a : Nat} (h : a ≠ f) : sL L f j v a = L a := by funext b; simp [sL, h]
theorem sL_upd {L : FL} {f j : Nat} {v : Int64} : sL L f j v f = vp_updL (L f) j v := by funext b; simp [sL, vp_updL]
theorem sL_at {L : FL} {f j : Nat} {v : Int64} {a b : Nat} (h : ¬ (a = f ∧ b = j)) : sL L f j v a b = L a b := by simp only [sL, if_neg h]
theorem sL_eq {L : FL} {f j : Nat} {v : Int64} : sL L f j v f j = v := by simp [sL]
abbrev tf_G : Type := va_G × (Nat → Nat) × (Nat → ClassId) × (Nat → Nat) × (Nat → Nat)
abbrev al (G : tf_G) : Nat → Nat := G.2.1
abbrev ca (G : tf_G) : Nat → ClassId := G.2.2.1
abbrev sK (G : tf_G) : Nat → Nat := G.2.2.2.1
abbrev sV (G : tf_G) : Nat → Nat := G.2.2.2.2
def wM (a : Nat → Nat) (N : Nat) (E : Nat → va_E) : va_W := (List.range N).map fun k => (a k, E k)
theorem wM_at {a : Nat → Nat} {N : Nat} {E : Nat → va_E} {k : Nat} (h : k < N) : (wM a N E)[k]? = some (a k, E k) := by simp [wM, h]
theorem wM_lt {a : Nat → Nat} {N : Nat} {E : Nat → va_E} {k : Nat} {q : Nat × va_E} (h : (wM a N E)[k]? = some q) : k < N ∧ q = (a k, E k) := by
  have hk : k < N := by
    have := (List.getElem?_eq_some_iff.mp h).1
    simpa [wM] using this
  rw [wM_at hk] at h
  exact ⟨hk, (Option.some.inj h).symm⟩
theorem wM_set {a : Nat → Nat} {N : Nat} {E E' : Nat → va_E} {k : Nat} (hne : ∀ j, j < N → j ≠ k → E' j = E j) : (wM a N E).set k (a k, E' k) = wM a N E' := by
  apply List.ext_getElem?
  intro j
  rw [List.getElem?_set]
  by_cases hj : j < N
  · by_cases hk : k = j
    · subst hk
      have : k < (wM a N E).length := by simpa [wM] using hj
      rw [if_pos rfl, if_pos this, wM_at hj]
    · rw [if_neg hk, wM_at hj, wM_at hj, hne j hj (fun h => hk h.symm)]
  · have h1 : (wM a N E)[j]? = none := by simp [wM, Nat.not_lt.mp hj]
    have h2 : (wM a N E')[j]? = none := by simp [wM, Nat.not_lt.mp hj]
    by_cases hk : k = j
    · subst hk
      have : ¬ k < (wM a N E).length := by simpa [wM] using hj
      rw [if_pos rfl, if_neg this, h2]
    · rw [if_neg hk, h1, h2]
def gA (a : Nat → Nat) (N : Nat) : Nat → Prop := fun q => ∃ k, k < N ∧ a k = q
def gJ (a : Nat → Nat) (N : Nat) : Prop := ∀ i j, i < N → j < N → a i = a j → i = j
theorem wM_D {a : Nat → Nat} {N : Nat} {E : Nat → va_E} (h : gJ a N) : va_D (gA a N) (wM a N E) := by
  refine ⟨fun i j p q hp hq e => ?_, fun k q hq => ?_⟩
  · obtain ⟨hi, rfl⟩ := wM_lt hp
    obtain ⟨hj, rfl⟩ := wM_lt hq
    exact h i j hi hj e
  · obtain ⟨hk, rfl⟩ := wM_lt hq
    exact ⟨k, hk, rfl⟩
def tyG (G : tf_G) : List (ClassId × FieldType) := [(ca G 0, .int), (ca G 1, .long), (ca G 2, .object "TradeFloor$Order"), (ca G 3, .object "TradeFloor$Account")]
/-- the text constants: thirty entries of two pools -/
def tf_Sb (G : tf_G) (A : Nat → Prop) (U : State) (H : Heap) : Prop :=
  (∀ i : Nat, i < nJS → va_O "java/lang/String" (sK G i) A U H ∧ va_OF "java/lang/String" "coder" "B" (.int 0) (sK G i) A U H ∧ va_OF "java/lang/String" "value" "[B" (.ref (sV G i)) (sK G i) A U H ∧ va_T .byte (sV G i) (lenJS.getD i 0) (fun j => .int ((bytJS.getD i []).getD j 0)) A U H) ∧
  (∀ i : Nat, i < nJS → vk_R (ownJS.getD i "") (idxJS.getD i 0) (txtJS.getD i "") (sK G i) U) ∧ va_Z "java/lang/String" "COMPACT_STRINGS" "Z" (.int 1) A U H
theorem tf_Sb.kept {G : tf_G} {A : Nat → Prop} {U : State} {H H1 : Heap} (h : tf_Sb G A U H) (hq : ∀ a : Nat, a < H.size → ¬ A a → H1[a]? = H[a]?) : tf_Sb G A U H1 :=
  ⟨fun i hi => ⟨(h.1 i hi).1.kept hq, (h.1 i hi).2.1.kept hq, (h.1 i hi).2.2.1.kept hq, (h.1 i hi).2.2.2.kept hq⟩, h.2.1, h.2.2.kept hq⟩
theorem tf_Sb.moved {G : tf_G} {A : Nat → Prop} {s U : State} {H : Heap} (hW : s.WarmedH U.vm) (h : tf_Sb G A s H) : tf_Sb G A U H :=
  ⟨fun i hi => ⟨va_O.moved hW.alike (h.1 i hi).1, va_OF.moved hW.alike (h.1 i hi).2.1, va_OF.moved hW.alike (h.1 i hi).2.2.1, va_T.moved hW.alike (h.1 i hi).2.2.2⟩, fun i hi => (h.2.1 i hi).warm hW, va_Z.moved hW.alike h.2.2⟩
theorem tf_Sb.same {G : tf_G} {A : Nat → Prop} {u U : State} {H : Heap} (hv : U.vm = u.vm) (h : tf_Sb G A u H) : tf_Sb G A U H :=
  have ha : u.vm.Alike U.vm := by rw [hv]; exact Vm.Alike.refl _
  ⟨fun i hi => ⟨va_O.moved ha (h.1 i hi).1, va_OF.moved ha (h.1 i hi).2.1, va_OF.moved ha (h.1 i hi).2.2.1, va_T.moved ha (h.1 i hi).2.2.2⟩, fun i hi => (h.2.1 i hi).same hv, va_Z.moved ha h.2.2⟩
theorem tf_Sb.narrow {G : tf_G} {A B : Nat → Prop} {U : State} {H : Heap} (h : tf_Sb G A U H) (hAB : ∀ q, B q → A q) : tf_Sb G B U H :=
  ⟨fun i hi => ⟨(h.1 i hi).1.narrow hAB, (h.1 i hi).2.1.narrow hAB, (h.1 i hi).2.2.1.narrow hAB, (h.1 i hi).2.2.2.narrow hAB⟩, h.2.1, h.2.2.narrow hAB⟩
/-- a method's own surroundings -/
def tf_X (G : tf_G) (N : Nat) (own : String) (cc : ByteArray) (nL : Nat) (ret : Option FieldType) (p : Program) (s : State) (m : MethodId) (args : Array Value) (meth : Method) (c : Code) : Prop :=
  p.tables.exec = Jvm.exec ∧ c.code = cc ∧ meth.sig.returnType = ret ∧ c.maxLocals = nL ∧ s.vm.findClass own = some m.cls ∧ meth.locks = false ∧ (∀ w ∈ gT, w.before args s = true) ∧ va_K G.1 vCl (tyG G) s ∧ tf_Sb G (gA (al G) N) s s.heap ∧ gJ (al G) N
/-- the heap holds the picture E, and only its cells have changed since H0 -/
def tf_H (G : tf_G) (N : Nat) (E : Nat → va_E) (H0 H : Heap) (locs : List Loc) : Prop := va_P G.1 vCl (wM (al G) N E) H ∧ va_S (gA (al G) N) H0 H locs
/-- a contract's start and end -/
def tf_B0 (G : tf_G) (N : Nat) (E : Nat → va_E) (U : State) : Prop := va_P G.1 vCl (wM (al G) N E) U.heap ∧ va_K G.1 vCl (tyG G) U ∧ tf_Sb G (gA (al G) N) U U.heap
def tf_B1 (G : tf_G) (N : Nat) (E : Nat → va_E) (t : State) : Prop := va_P G.1 vCl (wM (al G) N E) t.heap
abbrev tf_Pc (G : tf_G) (N : Nat) (E : Nat → va_E) (as : List Value) : Array Value → State → Prop := va_Pc as (tf_B0 G N E)
/-- the answer is v (or nothing), the picture E -/
def tf_Q (G : tf_G) (N : Nat) (E : Nat → va_E) (v : Option Value) : Array Value → State → Outcome → State → Prop := fun _ st oc t => oc = .returned v ∧ tf_B1 G N E t ∧ va_F (gA (al G) N) st t
abbrev tf_rm (f n : Nat) : Room := { frames := f, cells := 0, slots := 0, locals := n }
abbrev tf_Met (l : Launch) (G : tf_G) (N : Nat) (y : MethodName) (b : ByteArray) (n : Nat) (r : Option FieldType) (fr lo : Nat) (as : List Value) (E E' : Nat → va_E) (v : Option Value) : Prop :=
  Met l y (Cond.code y b n r :: gT) (tf_rm fr lo) (tf_Pc G N E as) (tf_Q G N E' v) 0 0 (gA (al G) N)
theorem tf_blind {G : tf_G} {N : Nat} {E : Nat → va_E} {as : List Value} : FrameBlind (tf_Pc G N E as) := fun a U g mk q => ⟨q.1, q.2.1, va_K.moved (u := U) (U := U.calling g mk a) (Vm.Alike.refl U.vm) q.2.2.1, tf_Sb.same (u := U) (U := U.calling g mk a) rfl q.2.2.2⟩
section TF
variable {p : Program} {l : Launch} {e : Env} {R : Room} {s : State} {m : MethodId} {args : Array Value} {below : List Frame} {meth : Method} {c : Code} {H : Heap} {locs : List Loc} {cells slots : Nat} {Q : State → Prop}
variable {cc : ByteArray} {pc : Nat} {ls : Array Slot} {rest : List Value} {G : tf_G} {N nL : Nat} {E E' : Nat → va_E} {own : String} {ret : Option FieldType}
/-- from a method's entry -/
theorem tf_enter {y : MethodName} {b : ByteArray} {n : Nat} {r : Option FieldType} {fr lo : Nat} {as : List Value} {v : Option Value} (hy : plainName y.cls = true) (hJ : gJ (al G) N) (hn : (lg_sl as).length ≤ n)
    (body : ∀ p e s m args below meth c ls, tf_X G N y.cls b n r p s m args meth c → (y.name = "<init>" → meth.name = "<init>") → lv_has ls n (lv_args 0 as) → tf_H G N E s.heap s.heap [] →
      W p l e (tf_rm fr lo) s m args below meth c s.heap [] 0 0 (MQ below (tf_Q G N E' v) args s 0 0 (gA (al G) N)) (F0 m 0 ls [])) : tf_Met l G N y b n r fr lo as E E' v := by
  refine Met.ofW (cc := b) (maxL := n) (ret := r) hy rfl ?_
  intro p e s m args below meth c s₁ B hml hv
  obtain ⟨rfl, hP, hK, hS⟩ := hv
  have hts := atoms_spec (ws := Cond.code y b n r :: gT) B.pre
  have hown : s.vm.findClass y.cls = some m.cls := findClass_of_methodNamed B.named
  have hl := lv_entry as (n := n) hn
  rw [lg_entry_eq]
  generalize (lg_sl as ++ List.replicate (n - (lg_sl as).length) Slot.unset).toArray = ls at hl ⊢
  exact body p e s m _ below meth c ls ⟨B.exec, B.bytes, B.returns, hml, hown, B.notSynchronized, fun w hw => hts w (List.mem_cons_of_mem _ hw), hK, hS, hJ⟩ (fun h => ((name_of_methodNamed B.named B.method).1).trans h) hl ⟨hP, va_S.rf⟩
theorem tf_get (X : tf_X G N own cc nL ret p s m args meth c) (h : tf_H G N E s.heap H locs) (q0 : Nat) (hq : q0 < N) {ci : Nat} {fs : List Value} {C : String} {T : u_T} {nf : Nat} (he : E q0 = .inr (ci, fs)) (hc : vCl[ci]? = some (C, T, nf)) (hin : ∀ w ∈ u_ws C T nf, w ∈ gT) (k : Nat) (hk : k < nf) {index : Nat} (hl : Cond.fieldLink own index (T k).1 (T k).2.1 (T k).2.2.1 ∈ gT) {v : Value} (hv : fs[k]? = some v) (hdg : decode cc pc = .ok (.getfield index, 3))
    (kk : W p l e R s m args below meth c H locs cells slots Q (F0 m (pc + 3) ls (v :: rest))) : W p l e R s m args below meth c H locs cells slots Q (F0 m pc ls (.ref (al G q0) :: rest)) := by
  obtain ⟨hx, hb, -, -, hown, -, hts, hK, -⟩ := X
  exact va_get hx hb hts hin hown hK h.1 q0 (by rw [wM_at hq, he]) hc k hk (hts _ hl) (fun _ z => z) hv hdg kk
theorem tf_put (X : tf_X G N own cc nL ret p s m args meth c) (h : tf_H G N E s.heap H locs) (q0 : Nat) (hq : q0 < N) {ci : Nat} {fs : List Value} {C : String} {T : u_T} {nf : Nat} (he : E q0 = .inr (ci, fs)) (hc : vCl[ci]? = some (C, T, nf)) (hin : ∀ w ∈ u_ws C T nf, w ∈ gT) (ty0 : Nat → FieldType) (hty : ∀ k, k < nf → parseFieldDescriptor (T k).2.2.1 = some (ty0 k)) (hnm : ∀ a, a < nf → ∀ b, b < nf → a ≠ b → (T a).2.1 ≠ (T b).2.1) (k : Nat) (hk : k < nf) (hkl : k < fs.length) {index : Nat} (hl : Cond.fieldLink own index (T k).1 (T k).2.1 (T k).2.2.1 ∈ gT) (hfin : (T k).2.2.2 = false) {v : Value} (hn : narrow (ty0 k) v = v) (hfit : fits (ty0 k) v = true) (he' : E' q0 = .inr (ci, fs.set k v)) (hne : ∀ j, j < N → j ≠ q0 → E' j = E j) (hdg : decode cc pc = .ok (.putfield index, 3))
    (kk : ∀ (H1 : Heap) (locs1 : List Loc), tf_H G N E' s.heap H1 locs1 → W p l e R s m args below meth c H1 locs1 cells slots Q (F0 m (pc + 3) ls rest)) : W p l e R s m args below meth c H locs cells slots Q (F0 m pc ls (v :: .ref (al G q0) :: rest)) := by
  obtain ⟨hx, hb, -, -, hown, -, hts, hK, -, hJ⟩ := X
  refine va_put hx hb hts hin ty0 hty hnm hown hK h.1 (wM_D hJ) h.2 q0 (by rw [wM_at hq, he]) hc k hk (hts _ hl) (fun _ z => z) hfin (hty k hk) hn hfit hkl hdg (fun H1 locs1 hP1 _ hS1 => kk H1 locs1 ⟨?_, hS1⟩)
  rw [← he', wM_set hne] at hP1
  exact hP1
theorem tf_iald (X : tf_X G N own cc nL ret p s m args meth c) (h : tf_H G N E s.heap H locs) (q0 : Nat) (hq : q0 < N) {n : Nat} {f : Nat → Int32} (he : E q0 = .inl (ca G 0, n, .inl f)) {i : Int32} (hin : vp_in i n) (hdg : decode cc pc = .ok (.iaload, 1))
    (kk : W p l e R s m args below meth c H locs cells slots Q (F0 m (pc + 1) ls (.int (f i.toNatClampNeg) :: rest))) : W p l e R s m args below meth c H locs cells slots Q (F0 m pc ls (.int i :: .ref (al G q0) :: rest)) := by
  obtain ⟨hx, hb, -, -, hown, -, hts, hK, -⟩ := X
  exact va_iald hx hb hK h.1 q0 0 (by rw [wM_at hq, he]) rfl hin hdg kk
theorem tf_lald (X : tf_X G N own cc nL ret p s m args meth c) (h : tf_H G N E s.heap H locs) (q0 : Nat) (hq : q0 < N) {n : Nat} {f : Nat → Int64} (he : E q0 = .inl (ca G 1, n, .inr (.inl f))) {i : Int32} (hin : vp_in i n) (hdg : decode cc pc = .ok (.laload, 1))
    (kk : W p l e R s m args below meth c H locs cells slots Q (F0 m (pc + 1) ls (.long (f i.toNatClampNeg) :: rest))) : W p l e R s m args below meth c H locs cells slots Q (F0 m pc ls (.int i :: .ref (al G q0) :: rest)) := by
  obtain ⟨hx, hb, -, -, hown, -, hts, hK, -⟩ := X
  exact va_lald hx hb hK h.1 q0 1 (by rw [wM_at hq, he]) rfl hin hdg kk
theorem tf_aald (X : tf_X G N own cc nL ret p s m args meth c) (h : tf_H G N E s.heap H locs) (q0 : Nat) (hq : q0 < N) (t0 : Nat) {C : String} {cA : ClassId} {n : Nat} {f : Nat → Option Nat} (he : E q0 = .inl (cA, n, .inr (.inr (.inr (.inr f))))) (ht : (tyG G)[t0]? = some (cA, .object C)) {i : Int32} (hin : vp_in i n) {v : Value} (hv : va_rf (f i.toNatClampNeg) = v) (hdg : decode cc pc = .ok (.aaload, 1))
    (kk : W p l e R s m args below meth c H locs cells slots Q (F0 m (pc + 1) ls (v :: rest))) : W p l e R s m args below meth c H locs cells slots Q (F0 m pc ls (.int i :: .ref (al G q0) :: rest)) := by
  obtain ⟨hx, hb, -, -, hown, -, hts, hK, -⟩ := X
  exact va_aldq hx hb hK h.1 q0 t0 (by rw [wM_at hq, he]) ht hin hdg (by rw [hv]; exact kk)
theorem tf_iast (X : tf_X G N own cc nL ret p s m args meth c) (h : tf_H G N E s.heap H locs) (q0 : Nat) (hq : q0 < N) {n : Nat} {f : Nat → Int32} (he : E q0 = .inl (ca G 0, n, .inl f)) {i x : Int32} (hin : vp_in i n) (he' : E' q0 = .inl (ca G 0, n, .inl (upd f i.toNatClampNeg x))) (hne : ∀ j, j < N → j ≠ q0 → E' j = E j) (hdg : decode cc pc = .ok (.iastore, 1))
    (kk : ∀ (H1 : Heap) (locs1 : List Loc), tf_H G N E' s.heap H1 locs1 → W p l e R s m args below meth c H1 locs1 cells slots Q (F0 m (pc + 1) ls rest)) : W p l e R s m args below meth c H locs cells slots Q (F0 m pc ls (.int x :: .int i :: .ref (al G q0) :: rest)) := by
  obtain ⟨hx, hb, -, -, hown, -, hts, hK, -, hJ⟩ := X
  refine va_iast hx hb hK h.1 (wM_D hJ) h.2 q0 0 (by rw [wM_at hq, he]) rfl hin hdg (fun H1 locs1 hP1 _ hS1 => kk H1 locs1 ⟨?_, hS1⟩)
  rw [← he', wM_set hne] at hP1
  exact hP1
theorem tf_last (X : tf_X G N own cc nL ret p s m args meth c) (h : tf_H G N E s.heap H locs) (q0 : Nat) (hq : q0 < N) {n : Nat} {f : Nat → Int64} (he : E q0 = .inl (ca G 1, n, .inr (.inl f))) {i : Int32} {x : Int64} (hin : vp_in i n) (he' : E' q0 = .inl (ca G 1, n, .inr (.inl (vp_updL f i.toNatClampNeg x)))) (hne : ∀ j, j < N → j ≠ q0 → E' j = E j) (hdg : decode cc pc = .ok (.lastore, 1))
    (kk : ∀ (H1 : Heap) (locs1 : List Loc), tf_H G N E' s.heap H1 locs1 → W p l e R s m args below meth c H1 locs1 cells slots Q (F0 m (pc + 1) ls rest)) : W p l e R s m args below meth c H locs cells slots Q (F0 m pc ls (.long x :: .int i :: .ref (al G q0) :: rest)) := by
  obtain ⟨hx, hb, -, -, hown, -, hts, hK, -, hJ⟩ := X
  refine va_last hx hb hK h.1 (wM_D hJ) h.2 q0 1 (by rw [wM_at hq, he]) rfl hin hdg (fun H1 locs1 hP1 _ hS1 => kk H1 locs1 ⟨?_, hS1⟩)
  rw [← he', wM_set hne] at hP1
  exact hP1
/-- the ends -/
theorem tf_iret (X : tf_X G N own cc nL (some .int) p s m args meth c) (h : tf_H G N E s.heap H locs) {v : Int32} (hdg : decode cc pc = .ok (.ireturn, 1)) :
    W p l e R s m args below meth c H locs 0 0 (MQ below (tf_Q G N E (some (.int v))) args s 0 0 (gA (al G) N)) (F0 m pc ls [.int v]) := by
  obtain ⟨hx, hb, hr, -, hown, hlocks, hts, hK, -⟩ := X
  exact W.iret hx hb hr (fun t ht hW => ⟨rfl, by unfold tf_B1; rw [ht]; exact h.1, h.2.F ht⟩) h.2.2.2 hdg hlocks
theorem tf_zret (X : tf_X G N own cc nL (some .boolean) p s m args meth c) (h : tf_H G N E s.heap H locs) {v : Int32} (hn : narrow .boolean (.int v) = .int v) (hdg : decode cc pc = .ok (.ireturn, 1)) :
    W p l e R s m args below meth c H locs 0 0 (MQ below (tf_Q G N E (some (.int v))) args s 0 0 (gA (al G) N)) (F0 m pc ls [.int v]) := by
  obtain ⟨hx, hb, hr, -, hown, hlocks, hts, hK, -⟩ := X
  exact W.zret hx hb hr hn (fun t ht hW => ⟨rfl, by unfold tf_B1; rw [ht]; exact h.1, h.2.F ht⟩) h.2.2.2 hdg hlocks
theorem tf_lret (X : tf_X G N own cc nL (some .long) p s m args meth c) (h : tf_H G N E s.heap H locs) {v : Int64} (hdg : decode cc pc = .ok (.lreturn, 1)) :
    W p l e R s m args below meth c H locs 0 0 (MQ below (tf_Q G N E (some (.long v))) args s 0 0 (gA (al G) N)) (F0 m pc ls [.long v]) := by
  obtain ⟨hx, hb, hr, -, hown, hlocks, hts, hK, -⟩ := X
  exact W.lret hx hb hr (fun t ht hW => ⟨rfl, by unfold tf_B1; rw [ht]; exact h.1, h.2.F ht⟩) h.2.2.2 hdg hlocks
theorem tf_vret (X : tf_X G N own cc nL none p s m args meth c) (h : tf_H G N E s.heap H locs) (hdg : decode cc pc = .ok (.return_, 1)) :
    W p l e R s m args below meth c H locs 0 0 (MQ below (tf_Q G N E none) args s 0 0 (gA (al G) N)) (F0 m pc ls []) := by
  obtain ⟨hx, hb, hr, -, hown, hlocks, hts, hK, -⟩ := X
  exact W.vret hx hb hr (fun t ht hW => ⟨rfl, by unfold tf_B1; rw [ht]; exact h.1, h.2.F ht⟩) h.2.2.2 hdg hlocks
theorem tf_aret {C : String} (X : tf_X G N own cc nL (some (.object C)) p s m args meth c) (h : tf_H G N E s.heap H locs) {v : Value} (hv : v = .null ∨ ∃ a, v = .ref a) (hdg : decode cc pc = .ok (.areturn, 1)) :
    W p l e R s m args below meth c H locs 0 0 (MQ below (tf_Q G N E (some v)) args s 0 0 (gA (al G) N)) (F0 m pc ls [v]) := by
  obtain ⟨hx, hb, hr, -, hown, hlocks, hts, hK, -⟩ := X
  exact W.aret hx hb hr (Or.inl ⟨_, rfl⟩) hv (fun t ht hW => ⟨rfl, by unfold tf_B1; rw [ht]; exact h.1, h.2.F ht⟩) h.2.2.2 hdg hlocks
/-- a call that answers v and leaves the picture E' -/
theorem tf_then {v : Option Value} {a : Array Value} {st0 : List Value} (hr : va_Run p l e R s m args below meth c H locs cells slots 0 0 (F0 m pc ls st0) rest (tf_Q G N E' v a) (gA (al G) N)) (h : tf_H G N E s.heap H locs)
    (kk : ∀ (H1 : Heap) (locs1 : List Loc), tf_H G N E' s.heap H1 locs1 → W p l e R s m args below meth c H1 locs1 cells slots Q (F0 m (pc + 3) ls (v.toList ++ rest))) : W p l e R s m args below meth c H locs cells slots Q (F0 m pc ls st0) := by
  intro T hT X
  obtain ⟨v', st₀, t, T', L, h0, X', hL, e1, e2, ⟨hv, hb, hz, hk⟩, st⟩ := hr T hT X
  cases hv
  rw [h0] at hz hk
  have hS := h.2
  obtain ⟨t2, a1, b1⟩ := kk T'.heap (locs ++ L) ⟨by rw [e1]; exact hb, ⟨Nat.le_trans hS.1 (by rw [e1]; exact hz), fun q h1 h2 => by rw [e1, hk q (Nat.lt_of_lt_of_le h1 hS.1) h2]; exact hS.2.1 q h1 h2, fun q hq => by
      rcases List.mem_append.mp hq with h | h
      · exact hS.2.2 q h
      · exact hL q h⟩⟩ T' rfl X'
  exact ⟨t2, st t2 a1, b1⟩
theorem tf_pre (X : tf_X G N own cc nL ret p s m args meth c) (h : tf_H G N E s.heap H locs) {as : List Value} : ∀ U : State, U.heap = H → s.WarmedH U.vm → tf_Pc G N E as as.toArray U := by
  obtain ⟨hx, hb, hr, -, hown, hlocks, hts, hK, hSb, hJ⟩ := X
  intro U hU hW
  refine ⟨rfl, by rw [hU]; exact h.1, va_K.moved hW.alike hK, ?_⟩
  rw [hU]
  exact (hSb.kept h.2.2.1).moved hW
theorem tf_callV {y : MethodName} {bytes : ByteArray} {maxL fr lo n index : Nat} {rt : Option FieldType} {As st0 : List Value} {v : Option Value} (X : tf_X G N own cc nL ret p s m args meth c) (h : tf_H G N E s.heap H locs) (q0 : Nat) (hq : q0 < N) {ci : Nat} {fs : List Value} {T : u_T} {nf : Nat} (he : E q0 = .inr (ci, fs)) (hc : vCl[ci]? = some (y.cls, T, nf))
    (hM : tf_Met l G N y bytes maxL rt fr lo (.ref (al G q0) :: As) E E' v) (hcode : Cond.code y bytes maxL rt ∈ gT) (hlink : Cond.methodLink own index y ∈ gT) (hinst : Cond.instanceMethod y ∈ gT) (hsel : Cond.selects y.cls y y ∈ gT) (hini : Cond.initialized y.cls ∈ gT) (hd : y.cls ≠ "java/lang/invoke/MethodHandle" ∧ y.cls ≠ "java/lang/invoke/VarHandle" ∧ (parseMethodDescriptor y.desc).map (fun d => d.parameters.length) = some n)
    (hR : fr + 1 ≤ R.frames ∧ 8 + (maxL + 11) + lo ≤ R.locals) (hlen : As.length = n) (hsz : ls.size = nL) (hst : st0 = As.reverse ++ .ref (al G q0) :: rest) (hroom : (rest.map fun v => v.category).sum ≤ 8) (hcs : cells ≤ R.cells ∧ slots ≤ R.slots) (hdg : decode cc pc = .ok (.invokevirtual index, 3))
    (kk : ∀ (H1 : Heap) (locs1 : List Loc), tf_H G N E' s.heap H1 locs1 → W p l e R s m args below meth c H1 locs1 cells slots Q (F0 m (pc + 3) ls (v.toList ++ rest))) : W p l e R s m args below meth c H locs cells slots Q (F0 m pc ls st0) := by
  have X0 := X
  obtain ⟨hx, hb, hr, hml, hown, hlocks, hts, hK, hSb, hJ⟩ := X
  have cw : CallW R s args own y.cls index y bytes maxL rt (Cond.code y bytes maxL rt :: gT) (tf_rm fr lo) 0 0 n := ⟨callB_of n hts (gGood hcode) rfl rfl rfl (hts _ hini) (hts _ hlink) hd hR, hts _ hinst, hts _ hsel⟩
  exact tf_then (va_runV (As := As) (rest := rest) (nL := nL) (Ts := gT) ⟨hx, hb, hml, hown, hts⟩ hM cw ⟨tf_blind, va_recv hK h.1 (ci := ci) (q0 := q0) hc (by rw [wM_at hq, he]), tf_pre X0 h⟩ rfl hlen hsz hst (lv_room hroom) hdg hcs) h kk
theorem tf_callS {y : MethodName} {bytes : ByteArray} {maxL fr lo n index : Nat} {rt : Option FieldType} {As st0 : List Value} {v : Option Value} (X : tf_X G N own cc nL ret p s m args meth c) (h : tf_H G N E s.heap H locs)
    (hM : tf_Met l G N y bytes maxL rt fr lo As E E' v) (hcode : Cond.code y bytes maxL rt ∈ gT) (hlink : Cond.methodLink own index y ∈ gT) (hstat : Cond.static y ∈ gT) (hini : Cond.initialized y.cls ∈ gT) (hd : y.cls ≠ "java/lang/invoke/MethodHandle" ∧ y.cls ≠ "java/lang/invoke/VarHandle" ∧ (parseMethodDescriptor y.desc).map (fun d => d.parameters.length) = some n)
    (hR : fr + 1 ≤ R.frames ∧ 8 + (maxL + 11) + lo ≤ R.locals) (hlen : As.length = n) (hsz : ls.size = nL) (hst : st0 = As.reverse ++ rest) (hroom : (rest.map fun v => v.category).sum ≤ 8) (hcs : cells ≤ R.cells ∧ slots ≤ R.slots) (hdg : decode cc pc = .ok (.invokestatic index, 3))
    (kk : ∀ (H1 : Heap) (locs1 : List Loc), tf_H G N E' s.heap H1 locs1 → W p l e R s m args below meth c H1 locs1 cells slots Q (F0 m (pc + 3) ls (v.toList ++ rest))) : W p l e R s m args below meth c H locs cells slots Q (F0 m pc ls st0) := by
  have X0 := X
  obtain ⟨hx, hb, hr, hml, hown, hlocks, hts, hK, hSb, hJ⟩ := X
  have cw : CallB R s args own index y bytes maxL rt (Cond.code y bytes maxL rt :: gT) (tf_rm fr lo) 0 0 n ∧ (Cond.static y).before args s = true := ⟨callB_of n hts (gGood hcode) rfl rfl rfl (hts _ hini) (hts _ hlink) hd hR, hts _ hstat⟩
  exact tf_then (va_runS (As := As) (rest := rest) (nL := nL) (Ts := gT) ⟨hx, hb, hml, hown, hts⟩ hM cw ⟨tf_blind, tf_pre X0 h⟩ rfl hlen hsz hst (lv_room hroom) hdg hcs) h kk
end TF
end
section
theorem in0 : ∀ w ∈ u_ws "TradeFloor$Account" T0 4, w ∈ gT := by
  have h : u_ws "TradeFloor$Account" T0 4 = [243, 245, 247, 249].filterMap (fun i => lw_tbl[i]?) := by decide +kernel
  have h2 : (u_ws "TradeFloor$Account" T0 4).all goodWord = true := by decide +kernel
  intro w hw
  have h3 := List.all_eq_true.mp h2 w hw
  rw [h] at hw
  obtain ⟨i, -, hi⟩ := List.mem_filterMap.mp hw
  exact gmem i hi h3
theorem in1 : ∀ w ∈ u_ws "TradeFloor$Command" T1 9, w ∈ gT := by
  have h : u_ws "TradeFloor$Command" T1 9 = [121, 123, 125, 127, 129, 131, 133, 135, 137].filterMap (fun i => lw_tbl[i]?) := by decide +kernel
  have h2 : (u_ws "TradeFloor$Command" T1 9).all goodWord = true := by decide +kernel
  intro w hw
  have h3 := List.all_eq_true.mp h2 w hw
  rw [h] at hw
  obtain ⟨i, -, hi⟩ := List.mem_filterMap.mp hw
  exact gmem i hi h3
theorem in2 : ∀ w ∈ u_ws "TradeFloor$Exchange" T2 5, w ∈ gT := by
  have h : u_ws "TradeFloor$Exchange" T2 5 = [262, 264, 266, 268, 270].filterMap (fun i => lw_tbl[i]?) := by decide +kernel
  have h2 : (u_ws "TradeFloor$Exchange" T2 5).all goodWord = true := by decide +kernel
  intro w hw
  have h3 := List.all_eq_true.mp h2 w hw
  rw [h] at hw
  obtain ⟨i, -, hi⟩ := List.mem_filterMap.mp hw
  exact gmem i hi h3
theorem in3 : ∀ w ∈ u_ws "TradeFloor$Order" T3 6, w ∈ gT := by
  have h : u_ws "TradeFloor$Order" T3 6 = [179, 181, 183, 185, 187, 189].filterMap (fun i => lw_tbl[i]?) := by decide +kernel
  have h2 : (u_ws "TradeFloor$Order" T3 6).all goodWord = true := by decide +kernel
  intro w hw
  have h3 := List.all_eq_true.mp h2 w hw
  rw [h] at hw
  obtain ⟨i, -, hi⟩ := List.mem_filterMap.mp hw
  exact gmem i hi h3
theorem in4 : ∀ w ∈ u_ws "TradeFloor$Orders" T4 2, w ∈ gT := by
  have h : u_ws "TradeFloor$Orders" T4 2 = [198, 200].filterMap (fun i => lw_tbl[i]?) := by decide +kernel
  have h2 : (u_ws "TradeFloor$Orders" T4 2).all goodWord = true := by decide +kernel
  intro w hw
  have h3 := List.all_eq_true.mp h2 w hw
  rw [h] at hw
  obtain ⟨i, -, hi⟩ := List.mem_filterMap.mp hw
  exact gmem i hi h3
theorem in5 : ∀ w ∈ u_ws "TradeFloor$Tape" T5 5, w ∈ gT := by
  have h : u_ws "TradeFloor$Tape" T5 5 = [81, 83, 85, 87, 89].filterMap (fun i => lw_tbl[i]?) := by decide +kernel
  have h2 : (u_ws "TradeFloor$Tape" T5 5).all goodWord = true := by decide +kernel
  intro w hw
  have h3 := List.all_eq_true.mp h2 w hw
  rw [h] at hw
  obtain ⟨i, -, hi⟩ := List.mem_filterMap.mp hw
  exact gmem i hi h3
theorem in6 : ∀ w ∈ u_ws "TradeFloor$Trades" T6 5, w ∈ gT := by
  have h : u_ws "TradeFloor$Trades" T6 5 = [215, 217, 219, 221, 223].filterMap (fun i => lw_tbl[i]?) := by decide +kernel
  have h2 : (u_ws "TradeFloor$Trades" T6 5).all goodWord = true := by decide +kernel
  intro w hw
  have h3 := List.all_eq_true.mp h2 w hw
  rw [h] at hw
  obtain ⟨i, -, hi⟩ := List.mem_filterMap.mp hw
  exact gmem i hi h3
theorem in7 : ∀ w ∈ u_ws "TradeFloor" T7 4, w ∈ gT := by
  have h : u_ws "TradeFloor" T7 4 = [277, 279, 281, 283].filterMap (fun i => lw_tbl[i]?) := by decide +kernel
  have h2 : (u_ws "TradeFloor" T7 4).all goodWord = true := by decide +kernel
  intro w hw
  have h3 := List.all_eq_true.mp h2 w hw
  rw [h] at hw
  obtain ⟨i, -, hi⟩ := List.mem_filterMap.mp hw
  exact gmem i hi h3
theorem in8 : ∀ w ∈ u_ws "TradeFloorModel" T8 22, w ∈ gT := by
  have h : u_ws "TradeFloorModel" T8 22 = [638, 640, 642, 644, 646, 648, 650, 652, 654, 656, 658, 660, 662, 664, 666, 668, 670, 672, 674, 676, 678, 680].filterMap (fun i => lw_tbl[i]?) := by decide +kernel
  have h2 : (u_ws "TradeFloorModel" T8 22).all goodWord = true := by decide +kernel
  intro w hw
  have h3 := List.all_eq_true.mp h2 w hw
  rw [h] at hw
  obtain ⟨i, -, hi⟩ := List.mem_filterMap.mp hw
  exact gmem i hi h3
def cE (G : tf_G) (I : FI) (L : FL) (k : Nat) : va_E := match k with
  | 0 => .inr (7, [.ref (al G 1), .ref (al G 5), .ref (al G 6), .int (I 11 3)])
  | 1 => .inr (5, [.ref (al G 2), .ref (al G 3), .ref (al G 4), .int (I 11 0), .int (I 12 0)])
  | 2 => .inl (ca G 0, 40, .inl (I 6))
  | 3 => .inl (ca G 0, 7, .inl (I 13))
  | 4 => .inl (ca G 0, 7, .inl (I 14))
  | 5 => .inr (1, [.int (I 15 0), .int (I 15 1), .int (I 15 2), .int (I 15 3), .int (I 15 4), .int (I 15 5), .int (I 15 6), .int (I 15 7), .int (I 15 8)])
  | 6 => .inr (2, [.ref (al G 7), .ref (al G 8), .ref (al G 10), .int (I 11 4), .int (I 11 5)])
  | 7 => .inl (ca G 3, 8, .inr (.inr (.inr (.inr (fun t => some (al G (t + 15)))))))
  | 8 => .inr (4, [.ref (al G 9), .int (I 11 1)])
  | 9 => .inl (ca G 2, 40, .inr (.inr (.inr (.inr (fun t => some (al G (t + 23)))))))
  | 10 => .inr (6, [.ref (al G 11), .ref (al G 12), .ref (al G 13), .ref (al G 14), .int (I 11 2)])
  | 11 => .inl (ca G 0, 200, .inl (I 7))
  | 12 => .inl (ca G 0, 200, .inl (I 8))
  | 13 => .inl (ca G 0, 200, .inl (I 9))
  | 14 => .inl (ca G 0, 200, .inl (I 10))
  | j + 15 => if j < 8 then .inr (0, [.long (L 0 j), .long (L 1 j), .long (L 2 j), .long (L 3 j)]) else .inr (3, [.int (I 0 (j - 8)), .int (I 1 (j - 8)), .int (I 2 (j - 8)), .int (I 3 (j - 8)), .int (I 4 (j - 8)), .int (I 5 (j - 8))])
def rE (G : tf_G) (I : FI) (L : FL) (k : Nat) : va_E := match k with
  | 0 => .inr (8, [.ref (al G 1), .ref (al G 2), .ref (al G 3), .int (I 11 0), .int (I 12 0), .ref (al G 4), .ref (al G 5), .ref (al G 6), .ref (al G 7), .ref (al G 8), .ref (al G 9), .ref (al G 10), .ref (al G 11), .int (I 11 1), .int (I 11 2), .int (I 11 3), .int (I 11 4), .int (I 11 5), .ref (al G 12), .ref (al G 13), .ref (al G 14), .ref (al G 15)])
  | 1 => .inl (ca G 0, 40, .inl (I 6))
  | 2 => .inl (ca G 0, 12, .inl (I 13))
  | 3 => .inl (ca G 0, 12, .inl (I 14))
  | 4 => .inl (ca G 1, 8, .inr (.inl (L 0)))
  | 5 => .inl (ca G 1, 8, .inr (.inl (L 1)))
  | 6 => .inl (ca G 0, 40, .inl (I 0))
  | 7 => .inl (ca G 0, 40, .inl (I 1))
  | 8 => .inl (ca G 0, 40, .inl (I 2))
  | 9 => .inl (ca G 0, 40, .inl (I 3))
  | 10 => .inl (ca G 0, 40, .inl (I 4))
  | 11 => .inl (ca G 0, 40, .inl (I 5))
  | 12 => .inl (ca G 0, 200, .inl (I 7))
  | 13 => .inl (ca G 0, 200, .inl (I 8))
  | 14 => .inl (ca G 0, 200, .inl (I 9))
  | 15 => .inl (ca G 0, 200, .inl (I 10))
  | _ => .inr (0, [])
theorem cE_ac {G : tf_G} {I : FI} {L : FL} (x : Fin 8) : cE G I L (x.val + 15) = .inr (0, [.long (L 0 x.val), .long (L 1 x.val), .long (L 2 x.val), .long (L 3 x.val)]) := by
  show (if x.val < 8 then _ else _) = _
  rw [if_pos x.isLt]
theorem cE_or {G : tf_G} {I : FI} {L : FL} (x : Fin 40) : cE G I L (x.val + 23) = .inr (3, [.int (I 0 x.val), .int (I 1 x.val), .int (I 2 x.val), .int (I 3 x.val), .int (I 4 x.val), .int (I 5 x.val)]) := by
  rw [show x.val + 23 = (x.val + 8) + 15 from rfl]
  simp only [cE]
  rw [if_neg (by omega), Nat.add_sub_cancel]
theorem cne_ac_0 {G : tf_G} {I : FI} {L : FL} {v : Int64} (x : Fin 8) {j : Nat} (hn : j ≠ x.val + 15) : cE G I (sL L 0 x.val v) j = cE G I L j := by
  unfold cE; split <;> first | rfl | skip
  rename_i k
  have h9 : ¬ (k = x.val) := by omega
  simp [sL, h9]
theorem cne_ac_1 {G : tf_G} {I : FI} {L : FL} {v : Int64} (x : Fin 8) {j : Nat} (hn : j ≠ x.val + 15) : cE G I (sL L 1 x.val v) j = cE G I L j := by
  unfold cE; split <;> first | rfl | skip
  rename_i k
  have h9 : ¬ (k = x.val) := by omega
  simp [sL, h9]
theorem cne_ac_2 {G : tf_G} {I : FI} {L : FL} {v : Int64} (x : Fin 8) {j : Nat} (hn : j ≠ x.val + 15) : cE G I (sL L 2 x.val v) j = cE G I L j := by
  unfold cE; split <;> first | rfl | skip
  rename_i k
  have h9 : ¬ (k = x.val) := by omega
  simp [sL, h9]
theorem cne_ac_3 {G : tf_G} {I : FI} {L : FL} {v : Int64} (x : Fin 8) {j : Nat} (hn : j ≠ x.val + 15) : cE G I (sL L 3 x.val v) j = cE G I L j := by
  unfold cE; split <;> first | rfl | skip
  rename_i k
  have h9 : ¬ (k = x.val) := by omega
  simp [sL, h9]
theorem cne_15_0 {G : tf_G} {I : FI} {L : FL} {v : Int32} {j : Nat} (hn : j ≠ 5) : cE G (sI I 15 0 v) L j = cE G I L j := by
  unfold cE; split <;> first | exact absurd rfl hn | rfl | simp [sI, sL]
theorem cne_15_1 {G : tf_G} {I : FI} {L : FL} {v : Int32} {j : Nat} (hn : j ≠ 5) : cE G (sI I 15 1 v) L j = cE G I L j := by
  unfold cE; split <;> first | exact absurd rfl hn | rfl | simp [sI, sL]
theorem cne_15_2 {G : tf_G} {I : FI} {L : FL} {v : Int32} {j : Nat} (hn : j ≠ 5) : cE G (sI I 15 2 v) L j = cE G I L j := by
  unfold cE; split <;> first | exact absurd rfl hn | rfl | simp [sI, sL]
theorem cne_15_3 {G : tf_G} {I : FI} {L : FL} {v : Int32} {j : Nat} (hn : j ≠ 5) : cE G (sI I 15 3 v) L j = cE G I L j := by
  unfold cE; split <;> first | exact absurd rfl hn | rfl | simp [sI, sL]
theorem cne_15_4 {G : tf_G} {I : FI} {L : FL} {v : Int32} {j : Nat} (hn : j ≠ 5) : cE G (sI I 15 4 v) L j = cE G I L j := by
  unfold cE; split <;> first | exact absurd rfl hn | rfl | simp [sI, sL]
theorem cne_15_5 {G : tf_G} {I : FI} {L : FL} {v : Int32} {j : Nat} (hn : j ≠ 5) : cE G (sI I 15 5 v) L j = cE G I L j := by
  unfold cE; split <;> first | exact absurd rfl hn | rfl | simp [sI, sL]
theorem cne_15_6 {G : tf_G} {I : FI} {L : FL} {v : Int32} {j : Nat} (hn : j ≠ 5) : cE G (sI I 15 6 v) L j = cE G I L j := by
  unfold cE; split <;> first | exact absurd rfl hn | rfl | simp [sI, sL]
theorem cne_15_7 {G : tf_G} {I : FI} {L : FL} {v : Int32} {j : Nat} (hn : j ≠ 5) : cE G (sI I 15 7 v) L j = cE G I L j := by
  unfold cE; split <;> first | exact absurd rfl hn | rfl | simp [sI, sL]
theorem cne_15_8 {G : tf_G} {I : FI} {L : FL} {v : Int32} {j : Nat} (hn : j ≠ 5) : cE G (sI I 15 8 v) L j = cE G I L j := by
  unfold cE; split <;> first | exact absurd rfl hn | rfl | simp [sI, sL]
theorem cne_11_4 {G : tf_G} {I : FI} {L : FL} {v : Int32} {j : Nat} (hn : j ≠ 6) : cE G (sI I 11 4 v) L j = cE G I L j := by
  unfold cE; split <;> first | exact absurd rfl hn | rfl | simp [sI, sL]
theorem cne_11_5 {G : tf_G} {I : FI} {L : FL} {v : Int32} {j : Nat} (hn : j ≠ 6) : cE G (sI I 11 5 v) L j = cE G I L j := by
  unfold cE; split <;> first | exact absurd rfl hn | rfl | simp [sI, sL]
theorem cne_or_0 {G : tf_G} {I : FI} {L : FL} {v : Int32} (x : Fin 40) {j : Nat} (hn : j ≠ x.val + 23) : cE G (sI I 0 x.val v) L j = cE G I L j := by
  unfold cE; split <;> first | rfl | simp [sI] | skip
  rename_i k
  by_cases hk : k < 8
  · simp [hk]
  · have h9 : ¬ (k - 8 = x.val) := by omega
    simp [hk, h9]
theorem cne_or_1 {G : tf_G} {I : FI} {L : FL} {v : Int32} (x : Fin 40) {j : Nat} (hn : j ≠ x.val + 23) : cE G (sI I 1 x.val v) L j = cE G I L j := by
  unfold cE; split <;> first | rfl | simp [sI] | skip
  rename_i k
  by_cases hk : k < 8
  · simp [hk]
  · have h9 : ¬ (k - 8 = x.val) := by omega
    simp [hk, h9]
theorem cne_or_2 {G : tf_G} {I : FI} {L : FL} {v : Int32} (x : Fin 40) {j : Nat} (hn : j ≠ x.val + 23) : cE G (sI I 2 x.val v) L j = cE G I L j := by
  unfold cE; split <;> first | rfl | simp [sI] | skip
  rename_i k
  by_cases hk : k < 8
  · simp [hk]
  · have h9 : ¬ (k - 8 = x.val) := by omega
    simp [hk, h9]
theorem cne_or_3 {G : tf_G} {I : FI} {L : FL} {v : Int32} (x : Fin 40) {j : Nat} (hn : j ≠ x.val + 23) : cE G (sI I 3 x.val v) L j = cE G I L j := by
  unfold cE; split <;> first | rfl | simp [sI] | skip
  rename_i k
  by_cases hk : k < 8
  · simp [hk]
  · have h9 : ¬ (k - 8 = x.val) := by omega
    simp [hk, h9]
theorem cne_or_4 {G : tf_G} {I : FI} {L : FL} {v : Int32} (x : Fin 40) {j : Nat} (hn : j ≠ x.val + 23) : cE G (sI I 4 x.val v) L j = cE G I L j := by
  unfold cE; split <;> first | rfl | simp [sI] | skip
  rename_i k
  by_cases hk : k < 8
  · simp [hk]
  · have h9 : ¬ (k - 8 = x.val) := by omega
    simp [hk, h9]
theorem cne_or_5 {G : tf_G} {I : FI} {L : FL} {v : Int32} (x : Fin 40) {j : Nat} (hn : j ≠ x.val + 23) : cE G (sI I 5 x.val v) L j = cE G I L j := by
  unfold cE; split <;> first | rfl | simp [sI] | skip
  rename_i k
  by_cases hk : k < 8
  · simp [hk]
  · have h9 : ¬ (k - 8 = x.val) := by omega
    simp [hk, h9]
theorem cne_11_1 {G : tf_G} {I : FI} {L : FL} {v : Int32} {j : Nat} (hn : j ≠ 8) : cE G (sI I 11 1 v) L j = cE G I L j := by
  unfold cE; split <;> first | exact absurd rfl hn | rfl | simp [sI, sL]
theorem cne_11_0 {G : tf_G} {I : FI} {L : FL} {v : Int32} {j : Nat} (hn : j ≠ 1) : cE G (sI I 11 0 v) L j = cE G I L j := by
  unfold cE; split <;> first | exact absurd rfl hn | rfl | simp [sI, sL]
theorem cne_12_0 {G : tf_G} {I : FI} {L : FL} {v : Int32} {j : Nat} (hn : j ≠ 1) : cE G (sI I 12 0 v) L j = cE G I L j := by
  unfold cE; split <;> first | exact absurd rfl hn | rfl | simp [sI, sL]
theorem cne_11_2 {G : tf_G} {I : FI} {L : FL} {v : Int32} {j : Nat} (hn : j ≠ 10) : cE G (sI I 11 2 v) L j = cE G I L j := by
  unfold cE; split <;> first | exact absurd rfl hn | rfl | simp [sI, sL]
theorem cne_11_3 {G : tf_G} {I : FI} {L : FL} {v : Int32} {j : Nat} (hn : j ≠ 0) : cE G (sI I 11 3 v) L j = cE G I L j := by
  unfold cE; split <;> first | exact absurd rfl hn | rfl | simp [sI, sL]
theorem cne_a2 {G : tf_G} {I : FI} {L : FL} {i : Nat} {v : Int32} {j : Nat} (hn : j ≠ 2) : cE G (sI I 6 i v) L j = cE G I L j := by
  unfold cE; split <;> first | exact absurd rfl hn | rfl | simp [sI, sL]
theorem cne_a3 {G : tf_G} {I : FI} {L : FL} {i : Nat} {v : Int32} {j : Nat} (hn : j ≠ 3) : cE G (sI I 13 i v) L j = cE G I L j := by
  unfold cE; split <;> first | exact absurd rfl hn | rfl | simp [sI, sL]
theorem cne_a4 {G : tf_G} {I : FI} {L : FL} {i : Nat} {v : Int32} {j : Nat} (hn : j ≠ 4) : cE G (sI I 14 i v) L j = cE G I L j := by
  unfold cE; split <;> first | exact absurd rfl hn | rfl | simp [sI, sL]
theorem cne_a11 {G : tf_G} {I : FI} {L : FL} {i : Nat} {v : Int32} {j : Nat} (hn : j ≠ 11) : cE G (sI I 7 i v) L j = cE G I L j := by
  unfold cE; split <;> first | exact absurd rfl hn | rfl | simp [sI, sL]
theorem cne_a12 {G : tf_G} {I : FI} {L : FL} {i : Nat} {v : Int32} {j : Nat} (hn : j ≠ 12) : cE G (sI I 8 i v) L j = cE G I L j := by
  unfold cE; split <;> first | exact absurd rfl hn | rfl | simp [sI, sL]
theorem cne_a13 {G : tf_G} {I : FI} {L : FL} {i : Nat} {v : Int32} {j : Nat} (hn : j ≠ 13) : cE G (sI I 9 i v) L j = cE G I L j := by
  unfold cE; split <;> first | exact absurd rfl hn | rfl | simp [sI, sL]
theorem cne_a14 {G : tf_G} {I : FI} {L : FL} {i : Nat} {v : Int32} {j : Nat} (hn : j ≠ 14) : cE G (sI I 10 i v) L j = cE G I L j := by
  unfold cE; split <;> first | exact absurd rfl hn | rfl | simp [sI, sL]
theorem rne_11_0 {G : tf_G} {I : FI} {L : FL} {v : Int32} {j : Nat} (hn : j ≠ 0) : rE G (sI I 11 0 v) L j = rE G I L j := by
  unfold rE; split <;> first | exact absurd rfl hn | rfl | simp [sI, sL]
theorem rne_12_0 {G : tf_G} {I : FI} {L : FL} {v : Int32} {j : Nat} (hn : j ≠ 0) : rE G (sI I 12 0 v) L j = rE G I L j := by
  unfold rE; split <;> first | exact absurd rfl hn | rfl | simp [sI, sL]
theorem rne_11_1 {G : tf_G} {I : FI} {L : FL} {v : Int32} {j : Nat} (hn : j ≠ 0) : rE G (sI I 11 1 v) L j = rE G I L j := by
  unfold rE; split <;> first | exact absurd rfl hn | rfl | simp [sI, sL]
theorem rne_11_2 {G : tf_G} {I : FI} {L : FL} {v : Int32} {j : Nat} (hn : j ≠ 0) : rE G (sI I 11 2 v) L j = rE G I L j := by
  unfold rE; split <;> first | exact absurd rfl hn | rfl | simp [sI, sL]
theorem rne_11_3 {G : tf_G} {I : FI} {L : FL} {v : Int32} {j : Nat} (hn : j ≠ 0) : rE G (sI I 11 3 v) L j = rE G I L j := by
  unfold rE; split <;> first | exact absurd rfl hn | rfl | simp [sI, sL]
theorem rne_11_4 {G : tf_G} {I : FI} {L : FL} {v : Int32} {j : Nat} (hn : j ≠ 0) : rE G (sI I 11 4 v) L j = rE G I L j := by
  unfold rE; split <;> first | exact absurd rfl hn | rfl | simp [sI, sL]
theorem rne_11_5 {G : tf_G} {I : FI} {L : FL} {v : Int32} {j : Nat} (hn : j ≠ 0) : rE G (sI I 11 5 v) L j = rE G I L j := by
  unfold rE; split <;> first | exact absurd rfl hn | rfl | simp [sI, sL]
theorem rne_a1 {G : tf_G} {I : FI} {L : FL} {i : Nat} {v : Int32} {j : Nat} (hn : j ≠ 1) : rE G (sI I 6 i v) L j = rE G I L j := by
  unfold rE; split <;> first | exact absurd rfl hn | rfl | simp [sI, sL]
theorem rne_a2 {G : tf_G} {I : FI} {L : FL} {i : Nat} {v : Int32} {j : Nat} (hn : j ≠ 2) : rE G (sI I 13 i v) L j = rE G I L j := by
  unfold rE; split <;> first | exact absurd rfl hn | rfl | simp [sI, sL]
theorem rne_a3 {G : tf_G} {I : FI} {L : FL} {i : Nat} {v : Int32} {j : Nat} (hn : j ≠ 3) : rE G (sI I 14 i v) L j = rE G I L j := by
  unfold rE; split <;> first | exact absurd rfl hn | rfl | simp [sI, sL]
theorem rne_a4 {G : tf_G} {I : FI} {L : FL} {i : Nat} {v : Int64} {j : Nat} (hn : j ≠ 4) : rE G I (sL L 0 i v) j = rE G I L j := by
  unfold rE; split <;> first | exact absurd rfl hn | rfl | simp [sI, sL]
theorem rne_a5 {G : tf_G} {I : FI} {L : FL} {i : Nat} {v : Int64} {j : Nat} (hn : j ≠ 5) : rE G I (sL L 1 i v) j = rE G I L j := by
  unfold rE; split <;> first | exact absurd rfl hn | rfl | simp [sI, sL]
theorem rne_a6 {G : tf_G} {I : FI} {L : FL} {i : Nat} {v : Int32} {j : Nat} (hn : j ≠ 6) : rE G (sI I 0 i v) L j = rE G I L j := by
  unfold rE; split <;> first | exact absurd rfl hn | rfl | simp [sI, sL]
theorem rne_a7 {G : tf_G} {I : FI} {L : FL} {i : Nat} {v : Int32} {j : Nat} (hn : j ≠ 7) : rE G (sI I 1 i v) L j = rE G I L j := by
  unfold rE; split <;> first | exact absurd rfl hn | rfl | simp [sI, sL]
theorem rne_a8 {G : tf_G} {I : FI} {L : FL} {i : Nat} {v : Int32} {j : Nat} (hn : j ≠ 8) : rE G (sI I 2 i v) L j = rE G I L j := by
  unfold rE; split <;> first | exact absurd rfl hn | rfl | simp [sI, sL]
theorem rne_a9 {G : tf_G} {I : FI} {L : FL} {i : Nat} {v : Int32} {j : Nat} (hn : j ≠ 9) : rE G (sI I 3 i v) L j = rE G I L j := by
  unfold rE; split <;> first | exact absurd rfl hn | rfl | simp [sI, sL]
theorem rne_a10 {G : tf_G} {I : FI} {L : FL} {i : Nat} {v : Int32} {j : Nat} (hn : j ≠ 10) : rE G (sI I 4 i v) L j = rE G I L j := by
  unfold rE; split <;> first | exact absurd rfl hn | rfl | simp [sI, sL]
theorem rne_a11 {G : tf_G} {I : FI} {L : FL} {i : Nat} {v : Int32} {j : Nat} (hn : j ≠ 11) : rE G (sI I 5 i v) L j = rE G I L j := by
  unfold rE; split <;> first | exact absurd rfl hn | rfl | simp [sI, sL]
theorem rne_a12 {G : tf_G} {I : FI} {L : FL} {i : Nat} {v : Int32} {j : Nat} (hn : j ≠ 12) : rE G (sI I 7 i v) L j = rE G I L j := by
  unfold rE; split <;> first | exact absurd rfl hn | rfl | simp [sI, sL]
theorem rne_a13 {G : tf_G} {I : FI} {L : FL} {i : Nat} {v : Int32} {j : Nat} (hn : j ≠ 13) : rE G (sI I 8 i v) L j = rE G I L j := by
  unfold rE; split <;> first | exact absurd rfl hn | rfl | simp [sI, sL]
theorem rne_a14 {G : tf_G} {I : FI} {L : FL} {i : Nat} {v : Int32} {j : Nat} (hn : j ≠ 14) : rE G (sI I 9 i v) L j = rE G I L j := by
  unfold rE; split <;> first | exact absurd rfl hn | rfl | simp [sI, sL]
theorem rne_a15 {G : tf_G} {I : FI} {L : FL} {i : Nat} {v : Int32} {j : Nat} (hn : j ≠ 15) : rE G (sI I 10 i v) L j = rE G I L j := by
  unfold rE; split <;> first | exact absurd rfl hn | rfl | simp [sI, sL]
section RW
variable {p : Program} {l : Launch} {e : Env} {R : Room} {s : State} {m : MethodId} {args : Array Value} {below : List Frame} {meth : Method} {c : Code} {H : Heap} {locs : List Loc} {cells slots : Nat} {Q : State → Prop}
variable {cc : ByteArray} {pc : Nat} {ls : Array Slot} {rest : List Value} {G : tf_G} {nL : Nat} {own : String} {ret : Option FieldType} {I : FI} {L : FL} {index : Nat}
theorem gf0_cash (X : tf_X G 63 own cc nL ret p s m args meth c) (h : tf_H G 63 (cE G I L) s.heap H locs) (x : Fin 8) (hl : Cond.fieldLink own index "TradeFloor$Account" "cash" "J" ∈ gT) (hdg : decode cc pc = .ok (.getfield index, 3)) (kk : W p l e R s m args below meth c H locs cells slots Q (F0 m (pc + 3) ls (.long (L 0 x.val) :: rest))) : W p l e R s m args below meth c H locs cells slots Q (F0 m pc ls (.ref (al G (x.val + 15)) :: rest)) :=
  tf_get X h (x.val + 15) (by omega) (cE_ac x) rfl in0 0 (by decide) hl rfl hdg kk
theorem pf0_cash (X : tf_X G 63 own cc nL ret p s m args meth c) (h : tf_H G 63 (cE G I L) s.heap H locs) (x : Fin 8) {v : Int64} (hl : Cond.fieldLink own index "TradeFloor$Account" "cash" "J" ∈ gT) (hdg : decode cc pc = .ok (.putfield index, 3)) (kk : ∀ (H1 : Heap) (locs1 : List Loc), tf_H G 63 (cE G I (sL L 0 x.val v)) s.heap H1 locs1 → W p l e R s m args below meth c H1 locs1 cells slots Q (F0 m (pc + 3) ls rest)) : W p l e R s m args below meth c H locs cells slots Q (F0 m pc ls (.long v :: .ref (al G (x.val + 15)) :: rest)) :=
  tf_put X h (x.val + 15) (by omega) (cE_ac x) rfl in0 ty0 tk0 nm0 0 (by decide) (Nat.le_of_ble_eq_true rfl) hl rfl rfl rfl (by rw [cE_ac x]; simp [sL]) (fun j hj hn => cne_ac_0 x hn) hdg kk
theorem gf0_goods (X : tf_X G 63 own cc nL ret p s m args meth c) (h : tf_H G 63 (cE G I L) s.heap H locs) (x : Fin 8) (hl : Cond.fieldLink own index "TradeFloor$Account" "goods" "J" ∈ gT) (hdg : decode cc pc = .ok (.getfield index, 3)) (kk : W p l e R s m args below meth c H locs cells slots Q (F0 m (pc + 3) ls (.long (L 1 x.val) :: rest))) : W p l e R s m args below meth c H locs cells slots Q (F0 m pc ls (.ref (al G (x.val + 15)) :: rest)) :=
  tf_get X h (x.val + 15) (by omega) (cE_ac x) rfl in0 1 (by decide) hl rfl hdg kk
theorem pf0_goods (X : tf_X G 63 own cc nL ret p s m args meth c) (h : tf_H G 63 (cE G I L) s.heap H locs) (x : Fin 8) {v : Int64} (hl : Cond.fieldLink own index "TradeFloor$Account" "goods" "J" ∈ gT) (hdg : decode cc pc = .ok (.putfield index, 3)) (kk : ∀ (H1 : Heap) (locs1 : List Loc), tf_H G 63 (cE G I (sL L 1 x.val v)) s.heap H1 locs1 → W p l e R s m args below meth c H1 locs1 cells slots Q (F0 m (pc + 3) ls rest)) : W p l e R s m args below meth c H locs cells slots Q (F0 m pc ls (.long v :: .ref (al G (x.val + 15)) :: rest)) :=
  tf_put X h (x.val + 15) (by omega) (cE_ac x) rfl in0 ty0 tk0 nm0 1 (by decide) (Nat.le_of_ble_eq_true rfl) hl rfl rfl rfl (by rw [cE_ac x]; simp [sL]) (fun j hj hn => cne_ac_1 x hn) hdg kk
theorem gf0_heldCash (X : tf_X G 63 own cc nL ret p s m args meth c) (h : tf_H G 63 (cE G I L) s.heap H locs) (x : Fin 8) (hl : Cond.fieldLink own index "TradeFloor$Account" "heldCash" "J" ∈ gT) (hdg : decode cc pc = .ok (.getfield index, 3)) (kk : W p l e R s m args below meth c H locs cells slots Q (F0 m (pc + 3) ls (.long (L 2 x.val) :: rest))) : W p l e R s m args below meth c H locs cells slots Q (F0 m pc ls (.ref (al G (x.val + 15)) :: rest)) :=
  tf_get X h (x.val + 15) (by omega) (cE_ac x) rfl in0 2 (by decide) hl rfl hdg kk
theorem pf0_heldCash (X : tf_X G 63 own cc nL ret p s m args meth c) (h : tf_H G 63 (cE G I L) s.heap H locs) (x : Fin 8) {v : Int64} (hl : Cond.fieldLink own index "TradeFloor$Account" "heldCash" "J" ∈ gT) (hdg : decode cc pc = .ok (.putfield index, 3)) (kk : ∀ (H1 : Heap) (locs1 : List Loc), tf_H G 63 (cE G I (sL L 2 x.val v)) s.heap H1 locs1 → W p l e R s m args below meth c H1 locs1 cells slots Q (F0 m (pc + 3) ls rest)) : W p l e R s m args below meth c H locs cells slots Q (F0 m pc ls (.long v :: .ref (al G (x.val + 15)) :: rest)) :=
  tf_put X h (x.val + 15) (by omega) (cE_ac x) rfl in0 ty0 tk0 nm0 2 (by decide) (Nat.le_of_ble_eq_true rfl) hl rfl rfl rfl (by rw [cE_ac x]; simp [sL]) (fun j hj hn => cne_ac_2 x hn) hdg kk
theorem gf0_heldGoods (X : tf_X G 63 own cc nL ret p s m args meth c) (h : tf_H G 63 (cE G I L) s.heap H locs) (x : Fin 8) (hl : Cond.fieldLink own index "TradeFloor$Account" "heldGoods" "J" ∈ gT) (hdg : decode cc pc = .ok (.getfield index, 3)) (kk : W p l e R s m args below meth c H locs cells slots Q (F0 m (pc + 3) ls (.long (L 3 x.val) :: rest))) : W p l e R s m args below meth c H locs cells slots Q (F0 m pc ls (.ref (al G (x.val + 15)) :: rest)) :=
  tf_get X h (x.val + 15) (by omega) (cE_ac x) rfl in0 3 (by decide) hl rfl hdg kk
theorem pf0_heldGoods (X : tf_X G 63 own cc nL ret p s m args meth c) (h : tf_H G 63 (cE G I L) s.heap H locs) (x : Fin 8) {v : Int64} (hl : Cond.fieldLink own index "TradeFloor$Account" "heldGoods" "J" ∈ gT) (hdg : decode cc pc = .ok (.putfield index, 3)) (kk : ∀ (H1 : Heap) (locs1 : List Loc), tf_H G 63 (cE G I (sL L 3 x.val v)) s.heap H1 locs1 → W p l e R s m args below meth c H1 locs1 cells slots Q (F0 m (pc + 3) ls rest)) : W p l e R s m args below meth c H locs cells slots Q (F0 m pc ls (.long v :: .ref (al G (x.val + 15)) :: rest)) :=
  tf_put X h (x.val + 15) (by omega) (cE_ac x) rfl in0 ty0 tk0 nm0 3 (by decide) (Nat.le_of_ble_eq_true rfl) hl rfl rfl rfl (by rw [cE_ac x]; simp [sL]) (fun j hj hn => cne_ac_3 x hn) hdg kk
theorem gf1_verb (X : tf_X G 63 own cc nL ret p s m args meth c) (h : tf_H G 63 (cE G I L) s.heap H locs) (hl : Cond.fieldLink own index "TradeFloor$Command" "verb" "I" ∈ gT) (hdg : decode cc pc = .ok (.getfield index, 3)) (kk : W p l e R s m args below meth c H locs cells slots Q (F0 m (pc + 3) ls (.int (I 15 0) :: rest))) : W p l e R s m args below meth c H locs cells slots Q (F0 m pc ls (.ref (al G 5) :: rest)) :=
  tf_get X h 5 (by decide) rfl rfl in1 0 (by decide) hl rfl hdg kk
theorem pf1_verb (X : tf_X G 63 own cc nL ret p s m args meth c) (h : tf_H G 63 (cE G I L) s.heap H locs) {v : Int32} (hl : Cond.fieldLink own index "TradeFloor$Command" "verb" "I" ∈ gT) (hdg : decode cc pc = .ok (.putfield index, 3)) (kk : ∀ (H1 : Heap) (locs1 : List Loc), tf_H G 63 (cE G (sI I 15 0 v) L) s.heap H1 locs1 → W p l e R s m args below meth c H1 locs1 cells slots Q (F0 m (pc + 3) ls rest)) : W p l e R s m args below meth c H locs cells slots Q (F0 m pc ls (.int v :: .ref (al G 5) :: rest)) :=
  tf_put X h 5 (by decide) rfl rfl in1 ty1 tk1 nm1 0 (by decide) (Nat.le_of_ble_eq_true rfl) hl rfl rfl rfl (by simp [cE, sI]) (fun j hj hn => cne_15_0 hn) hdg kk
theorem gf1_owner (X : tf_X G 63 own cc nL ret p s m args meth c) (h : tf_H G 63 (cE G I L) s.heap H locs) (hl : Cond.fieldLink own index "TradeFloor$Command" "owner" "I" ∈ gT) (hdg : decode cc pc = .ok (.getfield index, 3)) (kk : W p l e R s m args below meth c H locs cells slots Q (F0 m (pc + 3) ls (.int (I 15 1) :: rest))) : W p l e R s m args below meth c H locs cells slots Q (F0 m pc ls (.ref (al G 5) :: rest)) :=
  tf_get X h 5 (by decide) rfl rfl in1 1 (by decide) hl rfl hdg kk
theorem pf1_owner (X : tf_X G 63 own cc nL ret p s m args meth c) (h : tf_H G 63 (cE G I L) s.heap H locs) {v : Int32} (hl : Cond.fieldLink own index "TradeFloor$Command" "owner" "I" ∈ gT) (hdg : decode cc pc = .ok (.putfield index, 3)) (kk : ∀ (H1 : Heap) (locs1 : List Loc), tf_H G 63 (cE G (sI I 15 1 v) L) s.heap H1 locs1 → W p l e R s m args below meth c H1 locs1 cells slots Q (F0 m (pc + 3) ls rest)) : W p l e R s m args below meth c H locs cells slots Q (F0 m pc ls (.int v :: .ref (al G 5) :: rest)) :=
  tf_put X h 5 (by decide) rfl rfl in1 ty1 tk1 nm1 1 (by decide) (Nat.le_of_ble_eq_true rfl) hl rfl rfl rfl (by simp [cE, sI]) (fun j hj hn => cne_15_1 hn) hdg kk
theorem gf1_side (X : tf_X G 63 own cc nL ret p s m args meth c) (h : tf_H G 63 (cE G I L) s.heap H locs) (hl : Cond.fieldLink own index "TradeFloor$Command" "side" "I" ∈ gT) (hdg : decode cc pc = .ok (.getfield index, 3)) (kk : W p l e R s m args below meth c H locs cells slots Q (F0 m (pc + 3) ls (.int (I 15 2) :: rest))) : W p l e R s m args below meth c H locs cells slots Q (F0 m pc ls (.ref (al G 5) :: rest)) :=
  tf_get X h 5 (by decide) rfl rfl in1 2 (by decide) hl rfl hdg kk
theorem pf1_side (X : tf_X G 63 own cc nL ret p s m args meth c) (h : tf_H G 63 (cE G I L) s.heap H locs) {v : Int32} (hl : Cond.fieldLink own index "TradeFloor$Command" "side" "I" ∈ gT) (hdg : decode cc pc = .ok (.putfield index, 3)) (kk : ∀ (H1 : Heap) (locs1 : List Loc), tf_H G 63 (cE G (sI I 15 2 v) L) s.heap H1 locs1 → W p l e R s m args below meth c H1 locs1 cells slots Q (F0 m (pc + 3) ls rest)) : W p l e R s m args below meth c H locs cells slots Q (F0 m pc ls (.int v :: .ref (al G 5) :: rest)) :=
  tf_put X h 5 (by decide) rfl rfl in1 ty1 tk1 nm1 2 (by decide) (Nat.le_of_ble_eq_true rfl) hl rfl rfl rfl (by simp [cE, sI]) (fun j hj hn => cne_15_2 hn) hdg kk
theorem gf1_quantity (X : tf_X G 63 own cc nL ret p s m args meth c) (h : tf_H G 63 (cE G I L) s.heap H locs) (hl : Cond.fieldLink own index "TradeFloor$Command" "quantity" "I" ∈ gT) (hdg : decode cc pc = .ok (.getfield index, 3)) (kk : W p l e R s m args below meth c H locs cells slots Q (F0 m (pc + 3) ls (.int (I 15 3) :: rest))) : W p l e R s m args below meth c H locs cells slots Q (F0 m pc ls (.ref (al G 5) :: rest)) :=
  tf_get X h 5 (by decide) rfl rfl in1 3 (by decide) hl rfl hdg kk
theorem pf1_quantity (X : tf_X G 63 own cc nL ret p s m args meth c) (h : tf_H G 63 (cE G I L) s.heap H locs) {v : Int32} (hl : Cond.fieldLink own index "TradeFloor$Command" "quantity" "I" ∈ gT) (hdg : decode cc pc = .ok (.putfield index, 3)) (kk : ∀ (H1 : Heap) (locs1 : List Loc), tf_H G 63 (cE G (sI I 15 3 v) L) s.heap H1 locs1 → W p l e R s m args below meth c H1 locs1 cells slots Q (F0 m (pc + 3) ls rest)) : W p l e R s m args below meth c H locs cells slots Q (F0 m pc ls (.int v :: .ref (al G 5) :: rest)) :=
  tf_put X h 5 (by decide) rfl rfl in1 ty1 tk1 nm1 3 (by decide) (Nat.le_of_ble_eq_true rfl) hl rfl rfl rfl (by simp [cE, sI]) (fun j hj hn => cne_15_3 hn) hdg kk
theorem gf1_price (X : tf_X G 63 own cc nL ret p s m args meth c) (h : tf_H G 63 (cE G I L) s.heap H locs) (hl : Cond.fieldLink own index "TradeFloor$Command" "price" "I" ∈ gT) (hdg : decode cc pc = .ok (.getfield index, 3)) (kk : W p l e R s m args below meth c H locs cells slots Q (F0 m (pc + 3) ls (.int (I 15 4) :: rest))) : W p l e R s m args below meth c H locs cells slots Q (F0 m pc ls (.ref (al G 5) :: rest)) :=
  tf_get X h 5 (by decide) rfl rfl in1 4 (by decide) hl rfl hdg kk
theorem pf1_price (X : tf_X G 63 own cc nL ret p s m args meth c) (h : tf_H G 63 (cE G I L) s.heap H locs) {v : Int32} (hl : Cond.fieldLink own index "TradeFloor$Command" "price" "I" ∈ gT) (hdg : decode cc pc = .ok (.putfield index, 3)) (kk : ∀ (H1 : Heap) (locs1 : List Loc), tf_H G 63 (cE G (sI I 15 4 v) L) s.heap H1 locs1 → W p l e R s m args below meth c H1 locs1 cells slots Q (F0 m (pc + 3) ls rest)) : W p l e R s m args below meth c H locs cells slots Q (F0 m pc ls (.int v :: .ref (al G 5) :: rest)) :=
  tf_put X h 5 (by decide) rfl rfl in1 ty1 tk1 nm1 4 (by decide) (Nat.le_of_ble_eq_true rfl) hl rfl rfl rfl (by simp [cE, sI]) (fun j hj hn => cne_15_4 hn) hdg kk
theorem gf1_way (X : tf_X G 63 own cc nL ret p s m args meth c) (h : tf_H G 63 (cE G I L) s.heap H locs) (hl : Cond.fieldLink own index "TradeFloor$Command" "way" "I" ∈ gT) (hdg : decode cc pc = .ok (.getfield index, 3)) (kk : W p l e R s m args below meth c H locs cells slots Q (F0 m (pc + 3) ls (.int (I 15 5) :: rest))) : W p l e R s m args below meth c H locs cells slots Q (F0 m pc ls (.ref (al G 5) :: rest)) :=
  tf_get X h 5 (by decide) rfl rfl in1 5 (by decide) hl rfl hdg kk
theorem pf1_way (X : tf_X G 63 own cc nL ret p s m args meth c) (h : tf_H G 63 (cE G I L) s.heap H locs) {v : Int32} (hl : Cond.fieldLink own index "TradeFloor$Command" "way" "I" ∈ gT) (hdg : decode cc pc = .ok (.putfield index, 3)) (kk : ∀ (H1 : Heap) (locs1 : List Loc), tf_H G 63 (cE G (sI I 15 5 v) L) s.heap H1 locs1 → W p l e R s m args below meth c H1 locs1 cells slots Q (F0 m (pc + 3) ls rest)) : W p l e R s m args below meth c H locs cells slots Q (F0 m pc ls (.int v :: .ref (al G 5) :: rest)) :=
  tf_put X h 5 (by decide) rfl rfl in1 ty1 tk1 nm1 5 (by decide) (Nat.le_of_ble_eq_true rfl) hl rfl rfl rfl (by simp [cE, sI]) (fun j hj hn => cne_15_5 hn) hdg kk
theorem gf1_ticks (X : tf_X G 63 own cc nL ret p s m args meth c) (h : tf_H G 63 (cE G I L) s.heap H locs) (hl : Cond.fieldLink own index "TradeFloor$Command" "ticks" "I" ∈ gT) (hdg : decode cc pc = .ok (.getfield index, 3)) (kk : W p l e R s m args below meth c H locs cells slots Q (F0 m (pc + 3) ls (.int (I 15 6) :: rest))) : W p l e R s m args below meth c H locs cells slots Q (F0 m pc ls (.ref (al G 5) :: rest)) :=
  tf_get X h 5 (by decide) rfl rfl in1 6 (by decide) hl rfl hdg kk
theorem pf1_ticks (X : tf_X G 63 own cc nL ret p s m args meth c) (h : tf_H G 63 (cE G I L) s.heap H locs) {v : Int32} (hl : Cond.fieldLink own index "TradeFloor$Command" "ticks" "I" ∈ gT) (hdg : decode cc pc = .ok (.putfield index, 3)) (kk : ∀ (H1 : Heap) (locs1 : List Loc), tf_H G 63 (cE G (sI I 15 6 v) L) s.heap H1 locs1 → W p l e R s m args below meth c H1 locs1 cells slots Q (F0 m (pc + 3) ls rest)) : W p l e R s m args below meth c H locs cells slots Q (F0 m pc ls (.int v :: .ref (al G 5) :: rest)) :=
  tf_put X h 5 (by decide) rfl rfl in1 ty1 tk1 nm1 6 (by decide) (Nat.le_of_ble_eq_true rfl) hl rfl rfl rfl (by simp [cE, sI]) (fun j hj hn => cne_15_6 hn) hdg kk
theorem gf1_target (X : tf_X G 63 own cc nL ret p s m args meth c) (h : tf_H G 63 (cE G I L) s.heap H locs) (hl : Cond.fieldLink own index "TradeFloor$Command" "target" "I" ∈ gT) (hdg : decode cc pc = .ok (.getfield index, 3)) (kk : W p l e R s m args below meth c H locs cells slots Q (F0 m (pc + 3) ls (.int (I 15 7) :: rest))) : W p l e R s m args below meth c H locs cells slots Q (F0 m pc ls (.ref (al G 5) :: rest)) :=
  tf_get X h 5 (by decide) rfl rfl in1 7 (by decide) hl rfl hdg kk
theorem pf1_target (X : tf_X G 63 own cc nL ret p s m args meth c) (h : tf_H G 63 (cE G I L) s.heap H locs) {v : Int32} (hl : Cond.fieldLink own index "TradeFloor$Command" "target" "I" ∈ gT) (hdg : decode cc pc = .ok (.putfield index, 3)) (kk : ∀ (H1 : Heap) (locs1 : List Loc), tf_H G 63 (cE G (sI I 15 7 v) L) s.heap H1 locs1 → W p l e R s m args below meth c H1 locs1 cells slots Q (F0 m (pc + 3) ls rest)) : W p l e R s m args below meth c H locs cells slots Q (F0 m pc ls (.int v :: .ref (al G 5) :: rest)) :=
  tf_put X h 5 (by decide) rfl rfl in1 ty1 tk1 nm1 7 (by decide) (Nat.le_of_ble_eq_true rfl) hl rfl rfl rfl (by simp [cE, sI]) (fun j hj hn => cne_15_7 hn) hdg kk
theorem gf1_amount (X : tf_X G 63 own cc nL ret p s m args meth c) (h : tf_H G 63 (cE G I L) s.heap H locs) (hl : Cond.fieldLink own index "TradeFloor$Command" "amount" "I" ∈ gT) (hdg : decode cc pc = .ok (.getfield index, 3)) (kk : W p l e R s m args below meth c H locs cells slots Q (F0 m (pc + 3) ls (.int (I 15 8) :: rest))) : W p l e R s m args below meth c H locs cells slots Q (F0 m pc ls (.ref (al G 5) :: rest)) :=
  tf_get X h 5 (by decide) rfl rfl in1 8 (by decide) hl rfl hdg kk
theorem pf1_amount (X : tf_X G 63 own cc nL ret p s m args meth c) (h : tf_H G 63 (cE G I L) s.heap H locs) {v : Int32} (hl : Cond.fieldLink own index "TradeFloor$Command" "amount" "I" ∈ gT) (hdg : decode cc pc = .ok (.putfield index, 3)) (kk : ∀ (H1 : Heap) (locs1 : List Loc), tf_H G 63 (cE G (sI I 15 8 v) L) s.heap H1 locs1 → W p l e R s m args below meth c H1 locs1 cells slots Q (F0 m (pc + 3) ls rest)) : W p l e R s m args below meth c H locs cells slots Q (F0 m pc ls (.int v :: .ref (al G 5) :: rest)) :=
  tf_put X h 5 (by decide) rfl rfl in1 ty1 tk1 nm1 8 (by decide) (Nat.le_of_ble_eq_true rfl) hl rfl rfl rfl (by simp [cE, sI]) (fun j hj hn => cne_15_8 hn) hdg kk
theorem gf2_accounts (X : tf_X G 63 own cc nL ret p s m args meth c) (h : tf_H G 63 (cE G I L) s.heap H locs) (hl : Cond.fieldLink own index "TradeFloor$Exchange" "accounts" "[LTradeFloor$Account;" ∈ gT) (hdg : decode cc pc = .ok (.getfield index, 3)) (kk : W p l e R s m args below meth c H locs cells slots Q (F0 m (pc + 3) ls (.ref (al G 7) :: rest))) : W p l e R s m args below meth c H locs cells slots Q (F0 m pc ls (.ref (al G 6) :: rest)) :=
  tf_get X h 6 (by decide) rfl rfl in2 0 (by decide) hl rfl hdg kk
theorem gf2_orders (X : tf_X G 63 own cc nL ret p s m args meth c) (h : tf_H G 63 (cE G I L) s.heap H locs) (hl : Cond.fieldLink own index "TradeFloor$Exchange" "orders" "LTradeFloor$Orders;" ∈ gT) (hdg : decode cc pc = .ok (.getfield index, 3)) (kk : W p l e R s m args below meth c H locs cells slots Q (F0 m (pc + 3) ls (.ref (al G 8) :: rest))) : W p l e R s m args below meth c H locs cells slots Q (F0 m pc ls (.ref (al G 6) :: rest)) :=
  tf_get X h 6 (by decide) rfl rfl in2 1 (by decide) hl rfl hdg kk
theorem gf2_trades (X : tf_X G 63 own cc nL ret p s m args meth c) (h : tf_H G 63 (cE G I L) s.heap H locs) (hl : Cond.fieldLink own index "TradeFloor$Exchange" "trades" "LTradeFloor$Trades;" ∈ gT) (hdg : decode cc pc = .ok (.getfield index, 3)) (kk : W p l e R s m args below meth c H locs cells slots Q (F0 m (pc + 3) ls (.ref (al G 10) :: rest))) : W p l e R s m args below meth c H locs cells slots Q (F0 m pc ls (.ref (al G 6) :: rest)) :=
  tf_get X h 6 (by decide) rfl rfl in2 2 (by decide) hl rfl hdg kk
theorem gf2_last (X : tf_X G 63 own cc nL ret p s m args meth c) (h : tf_H G 63 (cE G I L) s.heap H locs) (hl : Cond.fieldLink own index "TradeFloor$Exchange" "last" "I" ∈ gT) (hdg : decode cc pc = .ok (.getfield index, 3)) (kk : W p l e R s m args below meth c H locs cells slots Q (F0 m (pc + 3) ls (.int (I 11 4) :: rest))) : W p l e R s m args below meth c H locs cells slots Q (F0 m pc ls (.ref (al G 6) :: rest)) :=
  tf_get X h 6 (by decide) rfl rfl in2 3 (by decide) hl rfl hdg kk
theorem pf2_last (X : tf_X G 63 own cc nL ret p s m args meth c) (h : tf_H G 63 (cE G I L) s.heap H locs) {v : Int32} (hl : Cond.fieldLink own index "TradeFloor$Exchange" "last" "I" ∈ gT) (hdg : decode cc pc = .ok (.putfield index, 3)) (kk : ∀ (H1 : Heap) (locs1 : List Loc), tf_H G 63 (cE G (sI I 11 4 v) L) s.heap H1 locs1 → W p l e R s m args below meth c H1 locs1 cells slots Q (F0 m (pc + 3) ls rest)) : W p l e R s m args below meth c H locs cells slots Q (F0 m pc ls (.int v :: .ref (al G 6) :: rest)) :=
  tf_put X h 6 (by decide) rfl rfl in2 ty2 tk2 nm2 3 (by decide) (Nat.le_of_ble_eq_true rfl) hl rfl rfl rfl (by simp [cE, sI]) (fun j hj hn => cne_11_4 hn) hdg kk
theorem gf2_now (X : tf_X G 63 own cc nL ret p s m args meth c) (h : tf_H G 63 (cE G I L) s.heap H locs) (hl : Cond.fieldLink own index "TradeFloor$Exchange" "now" "I" ∈ gT) (hdg : decode cc pc = .ok (.getfield index, 3)) (kk : W p l e R s m args below meth c H locs cells slots Q (F0 m (pc + 3) ls (.int (I 11 5) :: rest))) : W p l e R s m args below meth c H locs cells slots Q (F0 m pc ls (.ref (al G 6) :: rest)) :=
  tf_get X h 6 (by decide) rfl rfl in2 4 (by decide) hl rfl hdg kk
theorem pf2_now (X : tf_X G 63 own cc nL ret p s m args meth c) (h : tf_H G 63 (cE G I L) s.heap H locs) {v : Int32} (hl : Cond.fieldLink own index "TradeFloor$Exchange" "now" "I" ∈ gT) (hdg : decode cc pc = .ok (.putfield index, 3)) (kk : ∀ (H1 : Heap) (locs1 : List Loc), tf_H G 63 (cE G (sI I 11 5 v) L) s.heap H1 locs1 → W p l e R s m args below meth c H1 locs1 cells slots Q (F0 m (pc + 3) ls rest)) : W p l e R s m args below meth c H locs cells slots Q (F0 m pc ls (.int v :: .ref (al G 6) :: rest)) :=
  tf_put X h 6 (by decide) rfl rfl in2 ty2 tk2 nm2 4 (by decide) (Nat.le_of_ble_eq_true rfl) hl rfl rfl rfl (by simp [cE, sI]) (fun j hj hn => cne_11_5 hn) hdg kk
theorem gf3_owner (X : tf_X G 63 own cc nL ret p s m args meth c) (h : tf_H G 63 (cE G I L) s.heap H locs) (x : Fin 40) (hl : Cond.fieldLink own index "TradeFloor$Order" "owner" "I" ∈ gT) (hdg : decode cc pc = .ok (.getfield index, 3)) (kk : W p l e R s m args below meth c H locs cells slots Q (F0 m (pc + 3) ls (.int (I 0 x.val) :: rest))) : W p l e R s m args below meth c H locs cells slots Q (F0 m pc ls (.ref (al G (x.val + 23)) :: rest)) :=
  tf_get X h (x.val + 23) (by omega) (cE_or x) rfl in3 0 (by decide) hl rfl hdg kk
theorem pf3_owner (X : tf_X G 63 own cc nL ret p s m args meth c) (h : tf_H G 63 (cE G I L) s.heap H locs) (x : Fin 40) {v : Int32} (hl : Cond.fieldLink own index "TradeFloor$Order" "owner" "I" ∈ gT) (hdg : decode cc pc = .ok (.putfield index, 3)) (kk : ∀ (H1 : Heap) (locs1 : List Loc), tf_H G 63 (cE G (sI I 0 x.val v) L) s.heap H1 locs1 → W p l e R s m args below meth c H1 locs1 cells slots Q (F0 m (pc + 3) ls rest)) : W p l e R s m args below meth c H locs cells slots Q (F0 m pc ls (.int v :: .ref (al G (x.val + 23)) :: rest)) :=
  tf_put X h (x.val + 23) (by omega) (cE_or x) rfl in3 ty3 tk3 nm3 0 (by decide) (Nat.le_of_ble_eq_true rfl) hl rfl rfl rfl (by rw [cE_or x]; simp [sI]) (fun j hj hn => cne_or_0 x hn) hdg kk
theorem gf3_side (X : tf_X G 63 own cc nL ret p s m args meth c) (h : tf_H G 63 (cE G I L) s.heap H locs) (x : Fin 40) (hl : Cond.fieldLink own index "TradeFloor$Order" "side" "I" ∈ gT) (hdg : decode cc pc = .ok (.getfield index, 3)) (kk : W p l e R s m args below meth c H locs cells slots Q (F0 m (pc + 3) ls (.int (I 1 x.val) :: rest))) : W p l e R s m args below meth c H locs cells slots Q (F0 m pc ls (.ref (al G (x.val + 23)) :: rest)) :=
  tf_get X h (x.val + 23) (by omega) (cE_or x) rfl in3 1 (by decide) hl rfl hdg kk
theorem pf3_side (X : tf_X G 63 own cc nL ret p s m args meth c) (h : tf_H G 63 (cE G I L) s.heap H locs) (x : Fin 40) {v : Int32} (hl : Cond.fieldLink own index "TradeFloor$Order" "side" "I" ∈ gT) (hdg : decode cc pc = .ok (.putfield index, 3)) (kk : ∀ (H1 : Heap) (locs1 : List Loc), tf_H G 63 (cE G (sI I 1 x.val v) L) s.heap H1 locs1 → W p l e R s m args below meth c H1 locs1 cells slots Q (F0 m (pc + 3) ls rest)) : W p l e R s m args below meth c H locs cells slots Q (F0 m pc ls (.int v :: .ref (al G (x.val + 23)) :: rest)) :=
  tf_put X h (x.val + 23) (by omega) (cE_or x) rfl in3 ty3 tk3 nm3 1 (by decide) (Nat.le_of_ble_eq_true rfl) hl rfl rfl rfl (by rw [cE_or x]; simp [sI]) (fun j hj hn => cne_or_1 x hn) hdg kk
theorem gf3_left (X : tf_X G 63 own cc nL ret p s m args meth c) (h : tf_H G 63 (cE G I L) s.heap H locs) (x : Fin 40) (hl : Cond.fieldLink own index "TradeFloor$Order" "left" "I" ∈ gT) (hdg : decode cc pc = .ok (.getfield index, 3)) (kk : W p l e R s m args below meth c H locs cells slots Q (F0 m (pc + 3) ls (.int (I 2 x.val) :: rest))) : W p l e R s m args below meth c H locs cells slots Q (F0 m pc ls (.ref (al G (x.val + 23)) :: rest)) :=
  tf_get X h (x.val + 23) (by omega) (cE_or x) rfl in3 2 (by decide) hl rfl hdg kk
theorem pf3_left (X : tf_X G 63 own cc nL ret p s m args meth c) (h : tf_H G 63 (cE G I L) s.heap H locs) (x : Fin 40) {v : Int32} (hl : Cond.fieldLink own index "TradeFloor$Order" "left" "I" ∈ gT) (hdg : decode cc pc = .ok (.putfield index, 3)) (kk : ∀ (H1 : Heap) (locs1 : List Loc), tf_H G 63 (cE G (sI I 2 x.val v) L) s.heap H1 locs1 → W p l e R s m args below meth c H1 locs1 cells slots Q (F0 m (pc + 3) ls rest)) : W p l e R s m args below meth c H locs cells slots Q (F0 m pc ls (.int v :: .ref (al G (x.val + 23)) :: rest)) :=
  tf_put X h (x.val + 23) (by omega) (cE_or x) rfl in3 ty3 tk3 nm3 2 (by decide) (Nat.le_of_ble_eq_true rfl) hl rfl rfl rfl (by rw [cE_or x]; simp [sI]) (fun j hj hn => cne_or_2 x hn) hdg kk
theorem gf3_price (X : tf_X G 63 own cc nL ret p s m args meth c) (h : tf_H G 63 (cE G I L) s.heap H locs) (x : Fin 40) (hl : Cond.fieldLink own index "TradeFloor$Order" "price" "I" ∈ gT) (hdg : decode cc pc = .ok (.getfield index, 3)) (kk : W p l e R s m args below meth c H locs cells slots Q (F0 m (pc + 3) ls (.int (I 3 x.val) :: rest))) : W p l e R s m args below meth c H locs cells slots Q (F0 m pc ls (.ref (al G (x.val + 23)) :: rest)) :=
  tf_get X h (x.val + 23) (by omega) (cE_or x) rfl in3 3 (by decide) hl rfl hdg kk
theorem pf3_price (X : tf_X G 63 own cc nL ret p s m args meth c) (h : tf_H G 63 (cE G I L) s.heap H locs) (x : Fin 40) {v : Int32} (hl : Cond.fieldLink own index "TradeFloor$Order" "price" "I" ∈ gT) (hdg : decode cc pc = .ok (.putfield index, 3)) (kk : ∀ (H1 : Heap) (locs1 : List Loc), tf_H G 63 (cE G (sI I 3 x.val v) L) s.heap H1 locs1 → W p l e R s m args below meth c H1 locs1 cells slots Q (F0 m (pc + 3) ls rest)) : W p l e R s m args below meth c H locs cells slots Q (F0 m pc ls (.int v :: .ref (al G (x.val + 23)) :: rest)) :=
  tf_put X h (x.val + 23) (by omega) (cE_or x) rfl in3 ty3 tk3 nm3 3 (by decide) (Nat.le_of_ble_eq_true rfl) hl rfl rfl rfl (by rw [cE_or x]; simp [sI]) (fun j hj hn => cne_or_3 x hn) hdg kk
theorem gf3_state (X : tf_X G 63 own cc nL ret p s m args meth c) (h : tf_H G 63 (cE G I L) s.heap H locs) (x : Fin 40) (hl : Cond.fieldLink own index "TradeFloor$Order" "state" "I" ∈ gT) (hdg : decode cc pc = .ok (.getfield index, 3)) (kk : W p l e R s m args below meth c H locs cells slots Q (F0 m (pc + 3) ls (.int (I 4 x.val) :: rest))) : W p l e R s m args below meth c H locs cells slots Q (F0 m pc ls (.ref (al G (x.val + 23)) :: rest)) :=
  tf_get X h (x.val + 23) (by omega) (cE_or x) rfl in3 4 (by decide) hl rfl hdg kk
theorem pf3_state (X : tf_X G 63 own cc nL ret p s m args meth c) (h : tf_H G 63 (cE G I L) s.heap H locs) (x : Fin 40) {v : Int32} (hl : Cond.fieldLink own index "TradeFloor$Order" "state" "I" ∈ gT) (hdg : decode cc pc = .ok (.putfield index, 3)) (kk : ∀ (H1 : Heap) (locs1 : List Loc), tf_H G 63 (cE G (sI I 4 x.val v) L) s.heap H1 locs1 → W p l e R s m args below meth c H1 locs1 cells slots Q (F0 m (pc + 3) ls rest)) : W p l e R s m args below meth c H locs cells slots Q (F0 m pc ls (.int v :: .ref (al G (x.val + 23)) :: rest)) :=
  tf_put X h (x.val + 23) (by omega) (cE_or x) rfl in3 ty3 tk3 nm3 4 (by decide) (Nat.le_of_ble_eq_true rfl) hl rfl rfl rfl (by rw [cE_or x]; simp [sI]) (fun j hj hn => cne_or_4 x hn) hdg kk
theorem gf3_end (X : tf_X G 63 own cc nL ret p s m args meth c) (h : tf_H G 63 (cE G I L) s.heap H locs) (x : Fin 40) (hl : Cond.fieldLink own index "TradeFloor$Order" "end" "I" ∈ gT) (hdg : decode cc pc = .ok (.getfield index, 3)) (kk : W p l e R s m args below meth c H locs cells slots Q (F0 m (pc + 3) ls (.int (I 5 x.val) :: rest))) : W p l e R s m args below meth c H locs cells slots Q (F0 m pc ls (.ref (al G (x.val + 23)) :: rest)) :=
  tf_get X h (x.val + 23) (by omega) (cE_or x) rfl in3 5 (by decide) hl rfl hdg kk
theorem pf3_end (X : tf_X G 63 own cc nL ret p s m args meth c) (h : tf_H G 63 (cE G I L) s.heap H locs) (x : Fin 40) {v : Int32} (hl : Cond.fieldLink own index "TradeFloor$Order" "end" "I" ∈ gT) (hdg : decode cc pc = .ok (.putfield index, 3)) (kk : ∀ (H1 : Heap) (locs1 : List Loc), tf_H G 63 (cE G (sI I 5 x.val v) L) s.heap H1 locs1 → W p l e R s m args below meth c H1 locs1 cells slots Q (F0 m (pc + 3) ls rest)) : W p l e R s m args below meth c H locs cells slots Q (F0 m pc ls (.int v :: .ref (al G (x.val + 23)) :: rest)) :=
  tf_put X h (x.val + 23) (by omega) (cE_or x) rfl in3 ty3 tk3 nm3 5 (by decide) (Nat.le_of_ble_eq_true rfl) hl rfl rfl rfl (by rw [cE_or x]; simp [sI]) (fun j hj hn => cne_or_5 x hn) hdg kk
theorem gf4_rows (X : tf_X G 63 own cc nL ret p s m args meth c) (h : tf_H G 63 (cE G I L) s.heap H locs) (hl : Cond.fieldLink own index "TradeFloor$Orders" "rows" "[LTradeFloor$Order;" ∈ gT) (hdg : decode cc pc = .ok (.getfield index, 3)) (kk : W p l e R s m args below meth c H locs cells slots Q (F0 m (pc + 3) ls (.ref (al G 9) :: rest))) : W p l e R s m args below meth c H locs cells slots Q (F0 m pc ls (.ref (al G 8) :: rest)) :=
  tf_get X h 8 (by decide) rfl rfl in4 0 (by decide) hl rfl hdg kk
theorem gf4_size (X : tf_X G 63 own cc nL ret p s m args meth c) (h : tf_H G 63 (cE G I L) s.heap H locs) (hl : Cond.fieldLink own index "TradeFloor$Orders" "size" "I" ∈ gT) (hdg : decode cc pc = .ok (.getfield index, 3)) (kk : W p l e R s m args below meth c H locs cells slots Q (F0 m (pc + 3) ls (.int (I 11 1) :: rest))) : W p l e R s m args below meth c H locs cells slots Q (F0 m pc ls (.ref (al G 8) :: rest)) :=
  tf_get X h 8 (by decide) rfl rfl in4 1 (by decide) hl rfl hdg kk
theorem pf4_size (X : tf_X G 63 own cc nL ret p s m args meth c) (h : tf_H G 63 (cE G I L) s.heap H locs) {v : Int32} (hl : Cond.fieldLink own index "TradeFloor$Orders" "size" "I" ∈ gT) (hdg : decode cc pc = .ok (.putfield index, 3)) (kk : ∀ (H1 : Heap) (locs1 : List Loc), tf_H G 63 (cE G (sI I 11 1 v) L) s.heap H1 locs1 → W p l e R s m args below meth c H1 locs1 cells slots Q (F0 m (pc + 3) ls rest)) : W p l e R s m args below meth c H locs cells slots Q (F0 m pc ls (.int v :: .ref (al G 8) :: rest)) :=
  tf_put X h 8 (by decide) rfl rfl in4 ty4 tk4 nm4 1 (by decide) (Nat.le_of_ble_eq_true rfl) hl rfl rfl rfl (by simp [cE, sI]) (fun j hj hn => cne_11_1 hn) hdg kk
theorem gf5_signs (X : tf_X G 63 own cc nL ret p s m args meth c) (h : tf_H G 63 (cE G I L) s.heap H locs) (hl : Cond.fieldLink own index "TradeFloor$Tape" "signs" "[I" ∈ gT) (hdg : decode cc pc = .ok (.getfield index, 3)) (kk : W p l e R s m args below meth c H locs cells slots Q (F0 m (pc + 3) ls (.ref (al G 2) :: rest))) : W p l e R s m args below meth c H locs cells slots Q (F0 m pc ls (.ref (al G 1) :: rest)) :=
  tf_get X h 1 (by decide) rfl rfl in5 0 (by decide) hl rfl hdg kk
theorem gf5_starts (X : tf_X G 63 own cc nL ret p s m args meth c) (h : tf_H G 63 (cE G I L) s.heap H locs) (hl : Cond.fieldLink own index "TradeFloor$Tape" "starts" "[I" ∈ gT) (hdg : decode cc pc = .ok (.getfield index, 3)) (kk : W p l e R s m args below meth c H locs cells slots Q (F0 m (pc + 3) ls (.ref (al G 3) :: rest))) : W p l e R s m args below meth c H locs cells slots Q (F0 m pc ls (.ref (al G 1) :: rest)) :=
  tf_get X h 1 (by decide) rfl rfl in5 1 (by decide) hl rfl hdg kk
theorem gf5_ends (X : tf_X G 63 own cc nL ret p s m args meth c) (h : tf_H G 63 (cE G I L) s.heap H locs) (hl : Cond.fieldLink own index "TradeFloor$Tape" "ends" "[I" ∈ gT) (hdg : decode cc pc = .ok (.getfield index, 3)) (kk : W p l e R s m args below meth c H locs cells slots Q (F0 m (pc + 3) ls (.ref (al G 4) :: rest))) : W p l e R s m args below meth c H locs cells slots Q (F0 m pc ls (.ref (al G 1) :: rest)) :=
  tf_get X h 1 (by decide) rfl rfl in5 2 (by decide) hl rfl hdg kk
theorem gf5_size (X : tf_X G 63 own cc nL ret p s m args meth c) (h : tf_H G 63 (cE G I L) s.heap H locs) (hl : Cond.fieldLink own index "TradeFloor$Tape" "size" "I" ∈ gT) (hdg : decode cc pc = .ok (.getfield index, 3)) (kk : W p l e R s m args below meth c H locs cells slots Q (F0 m (pc + 3) ls (.int (I 11 0) :: rest))) : W p l e R s m args below meth c H locs cells slots Q (F0 m pc ls (.ref (al G 1) :: rest)) :=
  tf_get X h 1 (by decide) rfl rfl in5 3 (by decide) hl rfl hdg kk
theorem pf5_size (X : tf_X G 63 own cc nL ret p s m args meth c) (h : tf_H G 63 (cE G I L) s.heap H locs) {v : Int32} (hl : Cond.fieldLink own index "TradeFloor$Tape" "size" "I" ∈ gT) (hdg : decode cc pc = .ok (.putfield index, 3)) (kk : ∀ (H1 : Heap) (locs1 : List Loc), tf_H G 63 (cE G (sI I 11 0 v) L) s.heap H1 locs1 → W p l e R s m args below meth c H1 locs1 cells slots Q (F0 m (pc + 3) ls rest)) : W p l e R s m args below meth c H locs cells slots Q (F0 m pc ls (.int v :: .ref (al G 1) :: rest)) :=
  tf_put X h 1 (by decide) rfl rfl in5 ty5 tk5 nm5 3 (by decide) (Nat.le_of_ble_eq_true rfl) hl rfl rfl rfl (by simp [cE, sI]) (fun j hj hn => cne_11_0 hn) hdg kk
theorem gf5_words (X : tf_X G 63 own cc nL ret p s m args meth c) (h : tf_H G 63 (cE G I L) s.heap H locs) (hl : Cond.fieldLink own index "TradeFloor$Tape" "words" "I" ∈ gT) (hdg : decode cc pc = .ok (.getfield index, 3)) (kk : W p l e R s m args below meth c H locs cells slots Q (F0 m (pc + 3) ls (.int (I 12 0) :: rest))) : W p l e R s m args below meth c H locs cells slots Q (F0 m pc ls (.ref (al G 1) :: rest)) :=
  tf_get X h 1 (by decide) rfl rfl in5 4 (by decide) hl rfl hdg kk
theorem pf5_words (X : tf_X G 63 own cc nL ret p s m args meth c) (h : tf_H G 63 (cE G I L) s.heap H locs) {v : Int32} (hl : Cond.fieldLink own index "TradeFloor$Tape" "words" "I" ∈ gT) (hdg : decode cc pc = .ok (.putfield index, 3)) (kk : ∀ (H1 : Heap) (locs1 : List Loc), tf_H G 63 (cE G (sI I 12 0 v) L) s.heap H1 locs1 → W p l e R s m args below meth c H1 locs1 cells slots Q (F0 m (pc + 3) ls rest)) : W p l e R s m args below meth c H locs cells slots Q (F0 m pc ls (.int v :: .ref (al G 1) :: rest)) :=
  tf_put X h 1 (by decide) rfl rfl in5 ty5 tk5 nm5 4 (by decide) (Nat.le_of_ble_eq_true rfl) hl rfl rfl rfl (by simp [cE, sI]) (fun j hj hn => cne_12_0 hn) hdg kk
theorem gf6_buyers (X : tf_X G 63 own cc nL ret p s m args meth c) (h : tf_H G 63 (cE G I L) s.heap H locs) (hl : Cond.fieldLink own index "TradeFloor$Trades" "buyers" "[I" ∈ gT) (hdg : decode cc pc = .ok (.getfield index, 3)) (kk : W p l e R s m args below meth c H locs cells slots Q (F0 m (pc + 3) ls (.ref (al G 11) :: rest))) : W p l e R s m args below meth c H locs cells slots Q (F0 m pc ls (.ref (al G 10) :: rest)) :=
  tf_get X h 10 (by decide) rfl rfl in6 0 (by decide) hl rfl hdg kk
theorem gf6_sellers (X : tf_X G 63 own cc nL ret p s m args meth c) (h : tf_H G 63 (cE G I L) s.heap H locs) (hl : Cond.fieldLink own index "TradeFloor$Trades" "sellers" "[I" ∈ gT) (hdg : decode cc pc = .ok (.getfield index, 3)) (kk : W p l e R s m args below meth c H locs cells slots Q (F0 m (pc + 3) ls (.ref (al G 12) :: rest))) : W p l e R s m args below meth c H locs cells slots Q (F0 m pc ls (.ref (al G 10) :: rest)) :=
  tf_get X h 10 (by decide) rfl rfl in6 1 (by decide) hl rfl hdg kk
theorem gf6_prices (X : tf_X G 63 own cc nL ret p s m args meth c) (h : tf_H G 63 (cE G I L) s.heap H locs) (hl : Cond.fieldLink own index "TradeFloor$Trades" "prices" "[I" ∈ gT) (hdg : decode cc pc = .ok (.getfield index, 3)) (kk : W p l e R s m args below meth c H locs cells slots Q (F0 m (pc + 3) ls (.ref (al G 13) :: rest))) : W p l e R s m args below meth c H locs cells slots Q (F0 m pc ls (.ref (al G 10) :: rest)) :=
  tf_get X h 10 (by decide) rfl rfl in6 2 (by decide) hl rfl hdg kk
theorem gf6_quantities (X : tf_X G 63 own cc nL ret p s m args meth c) (h : tf_H G 63 (cE G I L) s.heap H locs) (hl : Cond.fieldLink own index "TradeFloor$Trades" "quantities" "[I" ∈ gT) (hdg : decode cc pc = .ok (.getfield index, 3)) (kk : W p l e R s m args below meth c H locs cells slots Q (F0 m (pc + 3) ls (.ref (al G 14) :: rest))) : W p l e R s m args below meth c H locs cells slots Q (F0 m pc ls (.ref (al G 10) :: rest)) :=
  tf_get X h 10 (by decide) rfl rfl in6 3 (by decide) hl rfl hdg kk
theorem gf6_made (X : tf_X G 63 own cc nL ret p s m args meth c) (h : tf_H G 63 (cE G I L) s.heap H locs) (hl : Cond.fieldLink own index "TradeFloor$Trades" "made" "I" ∈ gT) (hdg : decode cc pc = .ok (.getfield index, 3)) (kk : W p l e R s m args below meth c H locs cells slots Q (F0 m (pc + 3) ls (.int (I 11 2) :: rest))) : W p l e R s m args below meth c H locs cells slots Q (F0 m pc ls (.ref (al G 10) :: rest)) :=
  tf_get X h 10 (by decide) rfl rfl in6 4 (by decide) hl rfl hdg kk
theorem pf6_made (X : tf_X G 63 own cc nL ret p s m args meth c) (h : tf_H G 63 (cE G I L) s.heap H locs) {v : Int32} (hl : Cond.fieldLink own index "TradeFloor$Trades" "made" "I" ∈ gT) (hdg : decode cc pc = .ok (.putfield index, 3)) (kk : ∀ (H1 : Heap) (locs1 : List Loc), tf_H G 63 (cE G (sI I 11 2 v) L) s.heap H1 locs1 → W p l e R s m args below meth c H1 locs1 cells slots Q (F0 m (pc + 3) ls rest)) : W p l e R s m args below meth c H locs cells slots Q (F0 m pc ls (.int v :: .ref (al G 10) :: rest)) :=
  tf_put X h 10 (by decide) rfl rfl in6 ty6 tk6 nm6 4 (by decide) (Nat.le_of_ble_eq_true rfl) hl rfl rfl rfl (by simp [cE, sI]) (fun j hj hn => cne_11_2 hn) hdg kk
theorem gf7_tape (X : tf_X G 63 own cc nL ret p s m args meth c) (h : tf_H G 63 (cE G I L) s.heap H locs) (hl : Cond.fieldLink own index "TradeFloor" "tape" "LTradeFloor$Tape;" ∈ gT) (hdg : decode cc pc = .ok (.getfield index, 3)) (kk : W p l e R s m args below meth c H locs cells slots Q (F0 m (pc + 3) ls (.ref (al G 1) :: rest))) : W p l e R s m args below meth c H locs cells slots Q (F0 m pc ls (.ref (al G 0) :: rest)) :=
  tf_get X h 0 (by decide) rfl rfl in7 0 (by decide) hl rfl hdg kk
theorem gf7_command (X : tf_X G 63 own cc nL ret p s m args meth c) (h : tf_H G 63 (cE G I L) s.heap H locs) (hl : Cond.fieldLink own index "TradeFloor" "command" "LTradeFloor$Command;" ∈ gT) (hdg : decode cc pc = .ok (.getfield index, 3)) (kk : W p l e R s m args below meth c H locs cells slots Q (F0 m (pc + 3) ls (.ref (al G 5) :: rest))) : W p l e R s m args below meth c H locs cells slots Q (F0 m pc ls (.ref (al G 0) :: rest)) :=
  tf_get X h 0 (by decide) rfl rfl in7 1 (by decide) hl rfl hdg kk
theorem gf7_exchange (X : tf_X G 63 own cc nL ret p s m args meth c) (h : tf_H G 63 (cE G I L) s.heap H locs) (hl : Cond.fieldLink own index "TradeFloor" "exchange" "LTradeFloor$Exchange;" ∈ gT) (hdg : decode cc pc = .ok (.getfield index, 3)) (kk : W p l e R s m args below meth c H locs cells slots Q (F0 m (pc + 3) ls (.ref (al G 6) :: rest))) : W p l e R s m args below meth c H locs cells slots Q (F0 m pc ls (.ref (al G 0) :: rest)) :=
  tf_get X h 0 (by decide) rfl rfl in7 2 (by decide) hl rfl hdg kk
theorem gf7_refusals (X : tf_X G 63 own cc nL ret p s m args meth c) (h : tf_H G 63 (cE G I L) s.heap H locs) (hl : Cond.fieldLink own index "TradeFloor" "refusals" "I" ∈ gT) (hdg : decode cc pc = .ok (.getfield index, 3)) (kk : W p l e R s m args below meth c H locs cells slots Q (F0 m (pc + 3) ls (.int (I 11 3) :: rest))) : W p l e R s m args below meth c H locs cells slots Q (F0 m pc ls (.ref (al G 0) :: rest)) :=
  tf_get X h 0 (by decide) rfl rfl in7 3 (by decide) hl rfl hdg kk
theorem pf7_refusals (X : tf_X G 63 own cc nL ret p s m args meth c) (h : tf_H G 63 (cE G I L) s.heap H locs) {v : Int32} (hl : Cond.fieldLink own index "TradeFloor" "refusals" "I" ∈ gT) (hdg : decode cc pc = .ok (.putfield index, 3)) (kk : ∀ (H1 : Heap) (locs1 : List Loc), tf_H G 63 (cE G (sI I 11 3 v) L) s.heap H1 locs1 → W p l e R s m args below meth c H1 locs1 cells slots Q (F0 m (pc + 3) ls rest)) : W p l e R s m args below meth c H locs cells slots Q (F0 m pc ls (.int v :: .ref (al G 0) :: rest)) :=
  tf_put X h 0 (by decide) rfl rfl in7 ty7 tk7 nm7 3 (by decide) (Nat.le_of_ble_eq_true rfl) hl rfl rfl rfl (by simp [cE, sI]) (fun j hj hn => cne_11_3 hn) hdg kk
theorem gac_2 (X : tf_X G 63 own cc nL ret p s m args meth c) (h : tf_H G 63 (cE G I L) s.heap H locs) {i : Int32} (hin : vp_in i 40) (hdg : decode cc pc = .ok (.iaload, 1)) (kk : W p l e R s m args below meth c H locs cells slots Q (F0 m (pc + 1) ls (.int (I 6 i.toNatClampNeg) :: rest))) : W p l e R s m args below meth c H locs cells slots Q (F0 m pc ls (.int i :: .ref (al G 2) :: rest)) :=
  tf_iald X h 2 (by decide) rfl hin hdg kk
theorem pac_2 (X : tf_X G 63 own cc nL ret p s m args meth c) (h : tf_H G 63 (cE G I L) s.heap H locs) {i : Int32} {v : Int32} (hin : vp_in i 40) (hdg : decode cc pc = .ok (.iastore, 1)) (kk : ∀ (H1 : Heap) (locs1 : List Loc), tf_H G 63 (cE G (sI I 6 i.toNatClampNeg v) L) s.heap H1 locs1 → W p l e R s m args below meth c H1 locs1 cells slots Q (F0 m (pc + 1) ls rest)) : W p l e R s m args below meth c H locs cells slots Q (F0 m pc ls (.int v :: .int i :: .ref (al G 2) :: rest)) :=
  tf_iast X h 2 (by decide) rfl hin (by simp only [cE, sI_upd]) (fun j hj hn => cne_a2 hn) hdg kk
theorem gac_3 (X : tf_X G 63 own cc nL ret p s m args meth c) (h : tf_H G 63 (cE G I L) s.heap H locs) {i : Int32} (hin : vp_in i 7) (hdg : decode cc pc = .ok (.iaload, 1)) (kk : W p l e R s m args below meth c H locs cells slots Q (F0 m (pc + 1) ls (.int (I 13 i.toNatClampNeg) :: rest))) : W p l e R s m args below meth c H locs cells slots Q (F0 m pc ls (.int i :: .ref (al G 3) :: rest)) :=
  tf_iald X h 3 (by decide) rfl hin hdg kk
theorem pac_3 (X : tf_X G 63 own cc nL ret p s m args meth c) (h : tf_H G 63 (cE G I L) s.heap H locs) {i : Int32} {v : Int32} (hin : vp_in i 7) (hdg : decode cc pc = .ok (.iastore, 1)) (kk : ∀ (H1 : Heap) (locs1 : List Loc), tf_H G 63 (cE G (sI I 13 i.toNatClampNeg v) L) s.heap H1 locs1 → W p l e R s m args below meth c H1 locs1 cells slots Q (F0 m (pc + 1) ls rest)) : W p l e R s m args below meth c H locs cells slots Q (F0 m pc ls (.int v :: .int i :: .ref (al G 3) :: rest)) :=
  tf_iast X h 3 (by decide) rfl hin (by simp only [cE, sI_upd]) (fun j hj hn => cne_a3 hn) hdg kk
theorem gac_4 (X : tf_X G 63 own cc nL ret p s m args meth c) (h : tf_H G 63 (cE G I L) s.heap H locs) {i : Int32} (hin : vp_in i 7) (hdg : decode cc pc = .ok (.iaload, 1)) (kk : W p l e R s m args below meth c H locs cells slots Q (F0 m (pc + 1) ls (.int (I 14 i.toNatClampNeg) :: rest))) : W p l e R s m args below meth c H locs cells slots Q (F0 m pc ls (.int i :: .ref (al G 4) :: rest)) :=
  tf_iald X h 4 (by decide) rfl hin hdg kk
theorem pac_4 (X : tf_X G 63 own cc nL ret p s m args meth c) (h : tf_H G 63 (cE G I L) s.heap H locs) {i : Int32} {v : Int32} (hin : vp_in i 7) (hdg : decode cc pc = .ok (.iastore, 1)) (kk : ∀ (H1 : Heap) (locs1 : List Loc), tf_H G 63 (cE G (sI I 14 i.toNatClampNeg v) L) s.heap H1 locs1 → W p l e R s m args below meth c H1 locs1 cells slots Q (F0 m (pc + 1) ls rest)) : W p l e R s m args below meth c H locs cells slots Q (F0 m pc ls (.int v :: .int i :: .ref (al G 4) :: rest)) :=
  tf_iast X h 4 (by decide) rfl hin (by simp only [cE, sI_upd]) (fun j hj hn => cne_a4 hn) hdg kk
theorem gac_7 (X : tf_X G 63 own cc nL ret p s m args meth c) (h : tf_H G 63 (cE G I L) s.heap H locs) {i : Int32} (x : Fin 8) (hx : x.val = i.toNatClampNeg) (hin : vp_in i 8) (hdg : decode cc pc = .ok (.aaload, 1)) (kk : W p l e R s m args below meth c H locs cells slots Q (F0 m (pc + 1) ls (.ref (al G (x.val + 15)) :: rest))) : W p l e R s m args below meth c H locs cells slots Q (F0 m pc ls (.int i :: .ref (al G 7) :: rest)) :=
  tf_aald X h 7 (by decide) 3 rfl rfl hin (by rw [← hx]; rfl) hdg kk
theorem gac_9 (X : tf_X G 63 own cc nL ret p s m args meth c) (h : tf_H G 63 (cE G I L) s.heap H locs) {i : Int32} (x : Fin 40) (hx : x.val = i.toNatClampNeg) (hin : vp_in i 40) (hdg : decode cc pc = .ok (.aaload, 1)) (kk : W p l e R s m args below meth c H locs cells slots Q (F0 m (pc + 1) ls (.ref (al G (x.val + 23)) :: rest))) : W p l e R s m args below meth c H locs cells slots Q (F0 m pc ls (.int i :: .ref (al G 9) :: rest)) :=
  tf_aald X h 9 (by decide) 2 rfl rfl hin (by rw [← hx]; rfl) hdg kk
theorem gac_11 (X : tf_X G 63 own cc nL ret p s m args meth c) (h : tf_H G 63 (cE G I L) s.heap H locs) {i : Int32} (hin : vp_in i 200) (hdg : decode cc pc = .ok (.iaload, 1)) (kk : W p l e R s m args below meth c H locs cells slots Q (F0 m (pc + 1) ls (.int (I 7 i.toNatClampNeg) :: rest))) : W p l e R s m args below meth c H locs cells slots Q (F0 m pc ls (.int i :: .ref (al G 11) :: rest)) :=
  tf_iald X h 11 (by decide) rfl hin hdg kk
theorem pac_11 (X : tf_X G 63 own cc nL ret p s m args meth c) (h : tf_H G 63 (cE G I L) s.heap H locs) {i : Int32} {v : Int32} (hin : vp_in i 200) (hdg : decode cc pc = .ok (.iastore, 1)) (kk : ∀ (H1 : Heap) (locs1 : List Loc), tf_H G 63 (cE G (sI I 7 i.toNatClampNeg v) L) s.heap H1 locs1 → W p l e R s m args below meth c H1 locs1 cells slots Q (F0 m (pc + 1) ls rest)) : W p l e R s m args below meth c H locs cells slots Q (F0 m pc ls (.int v :: .int i :: .ref (al G 11) :: rest)) :=
  tf_iast X h 11 (by decide) rfl hin (by simp only [cE, sI_upd]) (fun j hj hn => cne_a11 hn) hdg kk
theorem gac_12 (X : tf_X G 63 own cc nL ret p s m args meth c) (h : tf_H G 63 (cE G I L) s.heap H locs) {i : Int32} (hin : vp_in i 200) (hdg : decode cc pc = .ok (.iaload, 1)) (kk : W p l e R s m args below meth c H locs cells slots Q (F0 m (pc + 1) ls (.int (I 8 i.toNatClampNeg) :: rest))) : W p l e R s m args below meth c H locs cells slots Q (F0 m pc ls (.int i :: .ref (al G 12) :: rest)) :=
  tf_iald X h 12 (by decide) rfl hin hdg kk
theorem pac_12 (X : tf_X G 63 own cc nL ret p s m args meth c) (h : tf_H G 63 (cE G I L) s.heap H locs) {i : Int32} {v : Int32} (hin : vp_in i 200) (hdg : decode cc pc = .ok (.iastore, 1)) (kk : ∀ (H1 : Heap) (locs1 : List Loc), tf_H G 63 (cE G (sI I 8 i.toNatClampNeg v) L) s.heap H1 locs1 → W p l e R s m args below meth c H1 locs1 cells slots Q (F0 m (pc + 1) ls rest)) : W p l e R s m args below meth c H locs cells slots Q (F0 m pc ls (.int v :: .int i :: .ref (al G 12) :: rest)) :=
  tf_iast X h 12 (by decide) rfl hin (by simp only [cE, sI_upd]) (fun j hj hn => cne_a12 hn) hdg kk
theorem gac_13 (X : tf_X G 63 own cc nL ret p s m args meth c) (h : tf_H G 63 (cE G I L) s.heap H locs) {i : Int32} (hin : vp_in i 200) (hdg : decode cc pc = .ok (.iaload, 1)) (kk : W p l e R s m args below meth c H locs cells slots Q (F0 m (pc + 1) ls (.int (I 9 i.toNatClampNeg) :: rest))) : W p l e R s m args below meth c H locs cells slots Q (F0 m pc ls (.int i :: .ref (al G 13) :: rest)) :=
  tf_iald X h 13 (by decide) rfl hin hdg kk
theorem pac_13 (X : tf_X G 63 own cc nL ret p s m args meth c) (h : tf_H G 63 (cE G I L) s.heap H locs) {i : Int32} {v : Int32} (hin : vp_in i 200) (hdg : decode cc pc = .ok (.iastore, 1)) (kk : ∀ (H1 : Heap) (locs1 : List Loc), tf_H G 63 (cE G (sI I 9 i.toNatClampNeg v) L) s.heap H1 locs1 → W p l e R s m args below meth c H1 locs1 cells slots Q (F0 m (pc + 1) ls rest)) : W p l e R s m args below meth c H locs cells slots Q (F0 m pc ls (.int v :: .int i :: .ref (al G 13) :: rest)) :=
  tf_iast X h 13 (by decide) rfl hin (by simp only [cE, sI_upd]) (fun j hj hn => cne_a13 hn) hdg kk
theorem gac_14 (X : tf_X G 63 own cc nL ret p s m args meth c) (h : tf_H G 63 (cE G I L) s.heap H locs) {i : Int32} (hin : vp_in i 200) (hdg : decode cc pc = .ok (.iaload, 1)) (kk : W p l e R s m args below meth c H locs cells slots Q (F0 m (pc + 1) ls (.int (I 10 i.toNatClampNeg) :: rest))) : W p l e R s m args below meth c H locs cells slots Q (F0 m pc ls (.int i :: .ref (al G 14) :: rest)) :=
  tf_iald X h 14 (by decide) rfl hin hdg kk
theorem pac_14 (X : tf_X G 63 own cc nL ret p s m args meth c) (h : tf_H G 63 (cE G I L) s.heap H locs) {i : Int32} {v : Int32} (hin : vp_in i 200) (hdg : decode cc pc = .ok (.iastore, 1)) (kk : ∀ (H1 : Heap) (locs1 : List Loc), tf_H G 63 (cE G (sI I 10 i.toNatClampNeg v) L) s.heap H1 locs1 → W p l e R s m args below meth c H1 locs1 cells slots Q (F0 m (pc + 1) ls rest)) : W p l e R s m args below meth c H locs cells slots Q (F0 m pc ls (.int v :: .int i :: .ref (al G 14) :: rest)) :=
  tf_iast X h 14 (by decide) rfl hin (by simp only [cE, sI_upd]) (fun j hj hn => cne_a14 hn) hdg kk
theorem gf8_tape (X : tf_X G 16 own cc nL ret p s m args meth c) (h : tf_H G 16 (rE G I L) s.heap H locs) (hl : Cond.fieldLink own index "TradeFloorModel" "tape" "[I" ∈ gT) (hdg : decode cc pc = .ok (.getfield index, 3)) (kk : W p l e R s m args below meth c H locs cells slots Q (F0 m (pc + 3) ls (.ref (al G 1) :: rest))) : W p l e R s m args below meth c H locs cells slots Q (F0 m pc ls (.ref (al G 0) :: rest)) :=
  tf_get X h 0 (by decide) rfl rfl in8 0 (by decide) hl rfl hdg kk
theorem gf8_from (X : tf_X G 16 own cc nL ret p s m args meth c) (h : tf_H G 16 (rE G I L) s.heap H locs) (hl : Cond.fieldLink own index "TradeFloorModel" "from" "[I" ∈ gT) (hdg : decode cc pc = .ok (.getfield index, 3)) (kk : W p l e R s m args below meth c H locs cells slots Q (F0 m (pc + 3) ls (.ref (al G 2) :: rest))) : W p l e R s m args below meth c H locs cells slots Q (F0 m pc ls (.ref (al G 0) :: rest)) :=
  tf_get X h 0 (by decide) rfl rfl in8 1 (by decide) hl rfl hdg kk
theorem gf8_to (X : tf_X G 16 own cc nL ret p s m args meth c) (h : tf_H G 16 (rE G I L) s.heap H locs) (hl : Cond.fieldLink own index "TradeFloorModel" "to" "[I" ∈ gT) (hdg : decode cc pc = .ok (.getfield index, 3)) (kk : W p l e R s m args below meth c H locs cells slots Q (F0 m (pc + 3) ls (.ref (al G 3) :: rest))) : W p l e R s m args below meth c H locs cells slots Q (F0 m pc ls (.ref (al G 0) :: rest)) :=
  tf_get X h 0 (by decide) rfl rfl in8 2 (by decide) hl rfl hdg kk
theorem gf8_size (X : tf_X G 16 own cc nL ret p s m args meth c) (h : tf_H G 16 (rE G I L) s.heap H locs) (hl : Cond.fieldLink own index "TradeFloorModel" "size" "I" ∈ gT) (hdg : decode cc pc = .ok (.getfield index, 3)) (kk : W p l e R s m args below meth c H locs cells slots Q (F0 m (pc + 3) ls (.int (I 11 0) :: rest))) : W p l e R s m args below meth c H locs cells slots Q (F0 m pc ls (.ref (al G 0) :: rest)) :=
  tf_get X h 0 (by decide) rfl rfl in8 3 (by decide) hl rfl hdg kk
theorem pf8_size (X : tf_X G 16 own cc nL ret p s m args meth c) (h : tf_H G 16 (rE G I L) s.heap H locs) {v : Int32} (hl : Cond.fieldLink own index "TradeFloorModel" "size" "I" ∈ gT) (hdg : decode cc pc = .ok (.putfield index, 3)) (kk : ∀ (H1 : Heap) (locs1 : List Loc), tf_H G 16 (rE G (sI I 11 0 v) L) s.heap H1 locs1 → W p l e R s m args below meth c H1 locs1 cells slots Q (F0 m (pc + 3) ls rest)) : W p l e R s m args below meth c H locs cells slots Q (F0 m pc ls (.int v :: .ref (al G 0) :: rest)) :=
  tf_put X h 0 (by decide) rfl rfl in8 ty8 tk8 nm8 3 (by decide) (Nat.le_of_ble_eq_true rfl) hl rfl rfl rfl (by simp [rE, sI]) (fun j hj hn => rne_11_0 hn) hdg kk
theorem gf8_words (X : tf_X G 16 own cc nL ret p s m args meth c) (h : tf_H G 16 (rE G I L) s.heap H locs) (hl : Cond.fieldLink own index "TradeFloorModel" "words" "I" ∈ gT) (hdg : decode cc pc = .ok (.getfield index, 3)) (kk : W p l e R s m args below meth c H locs cells slots Q (F0 m (pc + 3) ls (.int (I 12 0) :: rest))) : W p l e R s m args below meth c H locs cells slots Q (F0 m pc ls (.ref (al G 0) :: rest)) :=
  tf_get X h 0 (by decide) rfl rfl in8 4 (by decide) hl rfl hdg kk
theorem pf8_words (X : tf_X G 16 own cc nL ret p s m args meth c) (h : tf_H G 16 (rE G I L) s.heap H locs) {v : Int32} (hl : Cond.fieldLink own index "TradeFloorModel" "words" "I" ∈ gT) (hdg : decode cc pc = .ok (.putfield index, 3)) (kk : ∀ (H1 : Heap) (locs1 : List Loc), tf_H G 16 (rE G (sI I 12 0 v) L) s.heap H1 locs1 → W p l e R s m args below meth c H1 locs1 cells slots Q (F0 m (pc + 3) ls rest)) : W p l e R s m args below meth c H locs cells slots Q (F0 m pc ls (.int v :: .ref (al G 0) :: rest)) :=
  tf_put X h 0 (by decide) rfl rfl in8 ty8 tk8 nm8 4 (by decide) (Nat.le_of_ble_eq_true rfl) hl rfl rfl rfl (by simp [rE, sI]) (fun j hj hn => rne_12_0 hn) hdg kk
theorem gf8_cash (X : tf_X G 16 own cc nL ret p s m args meth c) (h : tf_H G 16 (rE G I L) s.heap H locs) (hl : Cond.fieldLink own index "TradeFloorModel" "cash" "[J" ∈ gT) (hdg : decode cc pc = .ok (.getfield index, 3)) (kk : W p l e R s m args below meth c H locs cells slots Q (F0 m (pc + 3) ls (.ref (al G 4) :: rest))) : W p l e R s m args below meth c H locs cells slots Q (F0 m pc ls (.ref (al G 0) :: rest)) :=
  tf_get X h 0 (by decide) rfl rfl in8 5 (by decide) hl rfl hdg kk
theorem gf8_goods (X : tf_X G 16 own cc nL ret p s m args meth c) (h : tf_H G 16 (rE G I L) s.heap H locs) (hl : Cond.fieldLink own index "TradeFloorModel" "goods" "[J" ∈ gT) (hdg : decode cc pc = .ok (.getfield index, 3)) (kk : W p l e R s m args below meth c H locs cells slots Q (F0 m (pc + 3) ls (.ref (al G 5) :: rest))) : W p l e R s m args below meth c H locs cells slots Q (F0 m pc ls (.ref (al G 0) :: rest)) :=
  tf_get X h 0 (by decide) rfl rfl in8 6 (by decide) hl rfl hdg kk
theorem gf8_who (X : tf_X G 16 own cc nL ret p s m args meth c) (h : tf_H G 16 (rE G I L) s.heap H locs) (hl : Cond.fieldLink own index "TradeFloorModel" "who" "[I" ∈ gT) (hdg : decode cc pc = .ok (.getfield index, 3)) (kk : W p l e R s m args below meth c H locs cells slots Q (F0 m (pc + 3) ls (.ref (al G 6) :: rest))) : W p l e R s m args below meth c H locs cells slots Q (F0 m pc ls (.ref (al G 0) :: rest)) :=
  tf_get X h 0 (by decide) rfl rfl in8 7 (by decide) hl rfl hdg kk
theorem gf8_side (X : tf_X G 16 own cc nL ret p s m args meth c) (h : tf_H G 16 (rE G I L) s.heap H locs) (hl : Cond.fieldLink own index "TradeFloorModel" "side" "[I" ∈ gT) (hdg : decode cc pc = .ok (.getfield index, 3)) (kk : W p l e R s m args below meth c H locs cells slots Q (F0 m (pc + 3) ls (.ref (al G 7) :: rest))) : W p l e R s m args below meth c H locs cells slots Q (F0 m pc ls (.ref (al G 0) :: rest)) :=
  tf_get X h 0 (by decide) rfl rfl in8 8 (by decide) hl rfl hdg kk
theorem gf8_left (X : tf_X G 16 own cc nL ret p s m args meth c) (h : tf_H G 16 (rE G I L) s.heap H locs) (hl : Cond.fieldLink own index "TradeFloorModel" "left" "[I" ∈ gT) (hdg : decode cc pc = .ok (.getfield index, 3)) (kk : W p l e R s m args below meth c H locs cells slots Q (F0 m (pc + 3) ls (.ref (al G 8) :: rest))) : W p l e R s m args below meth c H locs cells slots Q (F0 m pc ls (.ref (al G 0) :: rest)) :=
  tf_get X h 0 (by decide) rfl rfl in8 9 (by decide) hl rfl hdg kk
theorem gf8_price (X : tf_X G 16 own cc nL ret p s m args meth c) (h : tf_H G 16 (rE G I L) s.heap H locs) (hl : Cond.fieldLink own index "TradeFloorModel" "price" "[I" ∈ gT) (hdg : decode cc pc = .ok (.getfield index, 3)) (kk : W p l e R s m args below meth c H locs cells slots Q (F0 m (pc + 3) ls (.ref (al G 9) :: rest))) : W p l e R s m args below meth c H locs cells slots Q (F0 m pc ls (.ref (al G 0) :: rest)) :=
  tf_get X h 0 (by decide) rfl rfl in8 10 (by decide) hl rfl hdg kk
theorem gf8_state (X : tf_X G 16 own cc nL ret p s m args meth c) (h : tf_H G 16 (rE G I L) s.heap H locs) (hl : Cond.fieldLink own index "TradeFloorModel" "state" "[I" ∈ gT) (hdg : decode cc pc = .ok (.getfield index, 3)) (kk : W p l e R s m args below meth c H locs cells slots Q (F0 m (pc + 3) ls (.ref (al G 10) :: rest))) : W p l e R s m args below meth c H locs cells slots Q (F0 m pc ls (.ref (al G 0) :: rest)) :=
  tf_get X h 0 (by decide) rfl rfl in8 11 (by decide) hl rfl hdg kk
theorem gf8_ends (X : tf_X G 16 own cc nL ret p s m args meth c) (h : tf_H G 16 (rE G I L) s.heap H locs) (hl : Cond.fieldLink own index "TradeFloorModel" "ends" "[I" ∈ gT) (hdg : decode cc pc = .ok (.getfield index, 3)) (kk : W p l e R s m args below meth c H locs cells slots Q (F0 m (pc + 3) ls (.ref (al G 11) :: rest))) : W p l e R s m args below meth c H locs cells slots Q (F0 m pc ls (.ref (al G 0) :: rest)) :=
  tf_get X h 0 (by decide) rfl rfl in8 12 (by decide) hl rfl hdg kk
theorem gf8_orders (X : tf_X G 16 own cc nL ret p s m args meth c) (h : tf_H G 16 (rE G I L) s.heap H locs) (hl : Cond.fieldLink own index "TradeFloorModel" "orders" "I" ∈ gT) (hdg : decode cc pc = .ok (.getfield index, 3)) (kk : W p l e R s m args below meth c H locs cells slots Q (F0 m (pc + 3) ls (.int (I 11 1) :: rest))) : W p l e R s m args below meth c H locs cells slots Q (F0 m pc ls (.ref (al G 0) :: rest)) :=
  tf_get X h 0 (by decide) rfl rfl in8 13 (by decide) hl rfl hdg kk
theorem pf8_orders (X : tf_X G 16 own cc nL ret p s m args meth c) (h : tf_H G 16 (rE G I L) s.heap H locs) {v : Int32} (hl : Cond.fieldLink own index "TradeFloorModel" "orders" "I" ∈ gT) (hdg : decode cc pc = .ok (.putfield index, 3)) (kk : ∀ (H1 : Heap) (locs1 : List Loc), tf_H G 16 (rE G (sI I 11 1 v) L) s.heap H1 locs1 → W p l e R s m args below meth c H1 locs1 cells slots Q (F0 m (pc + 3) ls rest)) : W p l e R s m args below meth c H locs cells slots Q (F0 m pc ls (.int v :: .ref (al G 0) :: rest)) :=
  tf_put X h 0 (by decide) rfl rfl in8 ty8 tk8 nm8 13 (by decide) (Nat.le_of_ble_eq_true rfl) hl rfl rfl rfl (by simp [rE, sI]) (fun j hj hn => rne_11_1 hn) hdg kk
theorem gf8_trades (X : tf_X G 16 own cc nL ret p s m args meth c) (h : tf_H G 16 (rE G I L) s.heap H locs) (hl : Cond.fieldLink own index "TradeFloorModel" "trades" "I" ∈ gT) (hdg : decode cc pc = .ok (.getfield index, 3)) (kk : W p l e R s m args below meth c H locs cells slots Q (F0 m (pc + 3) ls (.int (I 11 2) :: rest))) : W p l e R s m args below meth c H locs cells slots Q (F0 m pc ls (.ref (al G 0) :: rest)) :=
  tf_get X h 0 (by decide) rfl rfl in8 14 (by decide) hl rfl hdg kk
theorem pf8_trades (X : tf_X G 16 own cc nL ret p s m args meth c) (h : tf_H G 16 (rE G I L) s.heap H locs) {v : Int32} (hl : Cond.fieldLink own index "TradeFloorModel" "trades" "I" ∈ gT) (hdg : decode cc pc = .ok (.putfield index, 3)) (kk : ∀ (H1 : Heap) (locs1 : List Loc), tf_H G 16 (rE G (sI I 11 2 v) L) s.heap H1 locs1 → W p l e R s m args below meth c H1 locs1 cells slots Q (F0 m (pc + 3) ls rest)) : W p l e R s m args below meth c H locs cells slots Q (F0 m pc ls (.int v :: .ref (al G 0) :: rest)) :=
  tf_put X h 0 (by decide) rfl rfl in8 ty8 tk8 nm8 14 (by decide) (Nat.le_of_ble_eq_true rfl) hl rfl rfl rfl (by simp [rE, sI]) (fun j hj hn => rne_11_2 hn) hdg kk
theorem gf8_refusals (X : tf_X G 16 own cc nL ret p s m args meth c) (h : tf_H G 16 (rE G I L) s.heap H locs) (hl : Cond.fieldLink own index "TradeFloorModel" "refusals" "I" ∈ gT) (hdg : decode cc pc = .ok (.getfield index, 3)) (kk : W p l e R s m args below meth c H locs cells slots Q (F0 m (pc + 3) ls (.int (I 11 3) :: rest))) : W p l e R s m args below meth c H locs cells slots Q (F0 m pc ls (.ref (al G 0) :: rest)) :=
  tf_get X h 0 (by decide) rfl rfl in8 15 (by decide) hl rfl hdg kk
theorem pf8_refusals (X : tf_X G 16 own cc nL ret p s m args meth c) (h : tf_H G 16 (rE G I L) s.heap H locs) {v : Int32} (hl : Cond.fieldLink own index "TradeFloorModel" "refusals" "I" ∈ gT) (hdg : decode cc pc = .ok (.putfield index, 3)) (kk : ∀ (H1 : Heap) (locs1 : List Loc), tf_H G 16 (rE G (sI I 11 3 v) L) s.heap H1 locs1 → W p l e R s m args below meth c H1 locs1 cells slots Q (F0 m (pc + 3) ls rest)) : W p l e R s m args below meth c H locs cells slots Q (F0 m pc ls (.int v :: .ref (al G 0) :: rest)) :=
  tf_put X h 0 (by decide) rfl rfl in8 ty8 tk8 nm8 15 (by decide) (Nat.le_of_ble_eq_true rfl) hl rfl rfl rfl (by simp [rE, sI]) (fun j hj hn => rne_11_3 hn) hdg kk
theorem gf8_last (X : tf_X G 16 own cc nL ret p s m args meth c) (h : tf_H G 16 (rE G I L) s.heap H locs) (hl : Cond.fieldLink own index "TradeFloorModel" "last" "I" ∈ gT) (hdg : decode cc pc = .ok (.getfield index, 3)) (kk : W p l e R s m args below meth c H locs cells slots Q (F0 m (pc + 3) ls (.int (I 11 4) :: rest))) : W p l e R s m args below meth c H locs cells slots Q (F0 m pc ls (.ref (al G 0) :: rest)) :=
  tf_get X h 0 (by decide) rfl rfl in8 16 (by decide) hl rfl hdg kk
theorem pf8_last (X : tf_X G 16 own cc nL ret p s m args meth c) (h : tf_H G 16 (rE G I L) s.heap H locs) {v : Int32} (hl : Cond.fieldLink own index "TradeFloorModel" "last" "I" ∈ gT) (hdg : decode cc pc = .ok (.putfield index, 3)) (kk : ∀ (H1 : Heap) (locs1 : List Loc), tf_H G 16 (rE G (sI I 11 4 v) L) s.heap H1 locs1 → W p l e R s m args below meth c H1 locs1 cells slots Q (F0 m (pc + 3) ls rest)) : W p l e R s m args below meth c H locs cells slots Q (F0 m pc ls (.int v :: .ref (al G 0) :: rest)) :=
  tf_put X h 0 (by decide) rfl rfl in8 ty8 tk8 nm8 16 (by decide) (Nat.le_of_ble_eq_true rfl) hl rfl rfl rfl (by simp [rE, sI]) (fun j hj hn => rne_11_4 hn) hdg kk
theorem gf8_now (X : tf_X G 16 own cc nL ret p s m args meth c) (h : tf_H G 16 (rE G I L) s.heap H locs) (hl : Cond.fieldLink own index "TradeFloorModel" "now" "I" ∈ gT) (hdg : decode cc pc = .ok (.getfield index, 3)) (kk : W p l e R s m args below meth c H locs cells slots Q (F0 m (pc + 3) ls (.int (I 11 5) :: rest))) : W p l e R s m args below meth c H locs cells slots Q (F0 m pc ls (.ref (al G 0) :: rest)) :=
  tf_get X h 0 (by decide) rfl rfl in8 17 (by decide) hl rfl hdg kk
theorem pf8_now (X : tf_X G 16 own cc nL ret p s m args meth c) (h : tf_H G 16 (rE G I L) s.heap H locs) {v : Int32} (hl : Cond.fieldLink own index "TradeFloorModel" "now" "I" ∈ gT) (hdg : decode cc pc = .ok (.putfield index, 3)) (kk : ∀ (H1 : Heap) (locs1 : List Loc), tf_H G 16 (rE G (sI I 11 5 v) L) s.heap H1 locs1 → W p l e R s m args below meth c H1 locs1 cells slots Q (F0 m (pc + 3) ls rest)) : W p l e R s m args below meth c H locs cells slots Q (F0 m pc ls (.int v :: .ref (al G 0) :: rest)) :=
  tf_put X h 0 (by decide) rfl rfl in8 ty8 tk8 nm8 17 (by decide) (Nat.le_of_ble_eq_true rfl) hl rfl rfl rfl (by simp [rE, sI]) (fun j hj hn => rne_11_5 hn) hdg kk
theorem gf8_buyer (X : tf_X G 16 own cc nL ret p s m args meth c) (h : tf_H G 16 (rE G I L) s.heap H locs) (hl : Cond.fieldLink own index "TradeFloorModel" "buyer" "[I" ∈ gT) (hdg : decode cc pc = .ok (.getfield index, 3)) (kk : W p l e R s m args below meth c H locs cells slots Q (F0 m (pc + 3) ls (.ref (al G 12) :: rest))) : W p l e R s m args below meth c H locs cells slots Q (F0 m pc ls (.ref (al G 0) :: rest)) :=
  tf_get X h 0 (by decide) rfl rfl in8 18 (by decide) hl rfl hdg kk
theorem gf8_seller (X : tf_X G 16 own cc nL ret p s m args meth c) (h : tf_H G 16 (rE G I L) s.heap H locs) (hl : Cond.fieldLink own index "TradeFloorModel" "seller" "[I" ∈ gT) (hdg : decode cc pc = .ok (.getfield index, 3)) (kk : W p l e R s m args below meth c H locs cells slots Q (F0 m (pc + 3) ls (.ref (al G 13) :: rest))) : W p l e R s m args below meth c H locs cells slots Q (F0 m pc ls (.ref (al G 0) :: rest)) :=
  tf_get X h 0 (by decide) rfl rfl in8 19 (by decide) hl rfl hdg kk
theorem gf8_paid (X : tf_X G 16 own cc nL ret p s m args meth c) (h : tf_H G 16 (rE G I L) s.heap H locs) (hl : Cond.fieldLink own index "TradeFloorModel" "paid" "[I" ∈ gT) (hdg : decode cc pc = .ok (.getfield index, 3)) (kk : W p l e R s m args below meth c H locs cells slots Q (F0 m (pc + 3) ls (.ref (al G 14) :: rest))) : W p l e R s m args below meth c H locs cells slots Q (F0 m pc ls (.ref (al G 0) :: rest)) :=
  tf_get X h 0 (by decide) rfl rfl in8 20 (by decide) hl rfl hdg kk
theorem gf8_many (X : tf_X G 16 own cc nL ret p s m args meth c) (h : tf_H G 16 (rE G I L) s.heap H locs) (hl : Cond.fieldLink own index "TradeFloorModel" "many" "[I" ∈ gT) (hdg : decode cc pc = .ok (.getfield index, 3)) (kk : W p l e R s m args below meth c H locs cells slots Q (F0 m (pc + 3) ls (.ref (al G 15) :: rest))) : W p l e R s m args below meth c H locs cells slots Q (F0 m pc ls (.ref (al G 0) :: rest)) :=
  tf_get X h 0 (by decide) rfl rfl in8 21 (by decide) hl rfl hdg kk
theorem gar_1 (X : tf_X G 16 own cc nL ret p s m args meth c) (h : tf_H G 16 (rE G I L) s.heap H locs) {i : Int32} (hin : vp_in i 40) (hdg : decode cc pc = .ok (.iaload, 1)) (kk : W p l e R s m args below meth c H locs cells slots Q (F0 m (pc + 1) ls (.int (I 6 i.toNatClampNeg) :: rest))) : W p l e R s m args below meth c H locs cells slots Q (F0 m pc ls (.int i :: .ref (al G 1) :: rest)) :=
  tf_iald X h 1 (by decide) rfl hin hdg kk
theorem par_1 (X : tf_X G 16 own cc nL ret p s m args meth c) (h : tf_H G 16 (rE G I L) s.heap H locs) {i : Int32} {v : Int32} (hin : vp_in i 40) (hdg : decode cc pc = .ok (.iastore, 1)) (kk : ∀ (H1 : Heap) (locs1 : List Loc), tf_H G 16 (rE G (sI I 6 i.toNatClampNeg v) L) s.heap H1 locs1 → W p l e R s m args below meth c H1 locs1 cells slots Q (F0 m (pc + 1) ls rest)) : W p l e R s m args below meth c H locs cells slots Q (F0 m pc ls (.int v :: .int i :: .ref (al G 1) :: rest)) :=
  tf_iast X h 1 (by decide) rfl hin (by simp only [rE, sI_upd]) (fun j hj hn => rne_a1 hn) hdg kk
theorem gar_2 (X : tf_X G 16 own cc nL ret p s m args meth c) (h : tf_H G 16 (rE G I L) s.heap H locs) {i : Int32} (hin : vp_in i 12) (hdg : decode cc pc = .ok (.iaload, 1)) (kk : W p l e R s m args below meth c H locs cells slots Q (F0 m (pc + 1) ls (.int (I 13 i.toNatClampNeg) :: rest))) : W p l e R s m args below meth c H locs cells slots Q (F0 m pc ls (.int i :: .ref (al G 2) :: rest)) :=
  tf_iald X h 2 (by decide) rfl hin hdg kk
theorem par_2 (X : tf_X G 16 own cc nL ret p s m args meth c) (h : tf_H G 16 (rE G I L) s.heap H locs) {i : Int32} {v : Int32} (hin : vp_in i 12) (hdg : decode cc pc = .ok (.iastore, 1)) (kk : ∀ (H1 : Heap) (locs1 : List Loc), tf_H G 16 (rE G (sI I 13 i.toNatClampNeg v) L) s.heap H1 locs1 → W p l e R s m args below meth c H1 locs1 cells slots Q (F0 m (pc + 1) ls rest)) : W p l e R s m args below meth c H locs cells slots Q (F0 m pc ls (.int v :: .int i :: .ref (al G 2) :: rest)) :=
  tf_iast X h 2 (by decide) rfl hin (by simp only [rE, sI_upd]) (fun j hj hn => rne_a2 hn) hdg kk
theorem gar_3 (X : tf_X G 16 own cc nL ret p s m args meth c) (h : tf_H G 16 (rE G I L) s.heap H locs) {i : Int32} (hin : vp_in i 12) (hdg : decode cc pc = .ok (.iaload, 1)) (kk : W p l e R s m args below meth c H locs cells slots Q (F0 m (pc + 1) ls (.int (I 14 i.toNatClampNeg) :: rest))) : W p l e R s m args below meth c H locs cells slots Q (F0 m pc ls (.int i :: .ref (al G 3) :: rest)) :=
  tf_iald X h 3 (by decide) rfl hin hdg kk
theorem par_3 (X : tf_X G 16 own cc nL ret p s m args meth c) (h : tf_H G 16 (rE G I L) s.heap H locs) {i : Int32} {v : Int32} (hin : vp_in i 12) (hdg : decode cc pc = .ok (.iastore, 1)) (kk : ∀ (H1 : Heap) (locs1 : List Loc), tf_H G 16 (rE G (sI I 14 i.toNatClampNeg v) L) s.heap H1 locs1 → W p l e R s m args below meth c H1 locs1 cells slots Q (F0 m (pc + 1) ls rest)) : W p l e R s m args below meth c H locs cells slots Q (F0 m pc ls (.int v :: .int i :: .ref (al G 3) :: rest)) :=
  tf_iast X h 3 (by decide) rfl hin (by simp only [rE, sI_upd]) (fun j hj hn => rne_a3 hn) hdg kk
theorem gar_4 (X : tf_X G 16 own cc nL ret p s m args meth c) (h : tf_H G 16 (rE G I L) s.heap H locs) {i : Int32} (hin : vp_in i 8) (hdg : decode cc pc = .ok (.laload, 1)) (kk : W p l e R s m args below meth c H locs cells slots Q (F0 m (pc + 1) ls (.long (L 0 i.toNatClampNeg) :: rest))) : W p l e R s m args below meth c H locs cells slots Q (F0 m pc ls (.int i :: .ref (al G 4) :: rest)) :=
  tf_lald X h 4 (by decide) rfl hin hdg kk
theorem par_4 (X : tf_X G 16 own cc nL ret p s m args meth c) (h : tf_H G 16 (rE G I L) s.heap H locs) {i : Int32} {v : Int64} (hin : vp_in i 8) (hdg : decode cc pc = .ok (.lastore, 1)) (kk : ∀ (H1 : Heap) (locs1 : List Loc), tf_H G 16 (rE G I (sL L 0 i.toNatClampNeg v)) s.heap H1 locs1 → W p l e R s m args below meth c H1 locs1 cells slots Q (F0 m (pc + 1) ls rest)) : W p l e R s m args below meth c H locs cells slots Q (F0 m pc ls (.long v :: .int i :: .ref (al G 4) :: rest)) :=
  tf_last X h 4 (by decide) rfl hin (by simp only [rE, sL_upd]) (fun j hj hn => rne_a4 hn) hdg kk
theorem gar_5 (X : tf_X G 16 own cc nL ret p s m args meth c) (h : tf_H G 16 (rE G I L) s.heap H locs) {i : Int32} (hin : vp_in i 8) (hdg : decode cc pc = .ok (.laload, 1)) (kk : W p l e R s m args below meth c H locs cells slots Q (F0 m (pc + 1) ls (.long (L 1 i.toNatClampNeg) :: rest))) : W p l e R s m args below meth c H locs cells slots Q (F0 m pc ls (.int i :: .ref (al G 5) :: rest)) :=
  tf_lald X h 5 (by decide) rfl hin hdg kk
theorem par_5 (X : tf_X G 16 own cc nL ret p s m args meth c) (h : tf_H G 16 (rE G I L) s.heap H locs) {i : Int32} {v : Int64} (hin : vp_in i 8) (hdg : decode cc pc = .ok (.lastore, 1)) (kk : ∀ (H1 : Heap) (locs1 : List Loc), tf_H G 16 (rE G I (sL L 1 i.toNatClampNeg v)) s.heap H1 locs1 → W p l e R s m args below meth c H1 locs1 cells slots Q (F0 m (pc + 1) ls rest)) : W p l e R s m args below meth c H locs cells slots Q (F0 m pc ls (.long v :: .int i :: .ref (al G 5) :: rest)) :=
  tf_last X h 5 (by decide) rfl hin (by simp only [rE, sL_upd]) (fun j hj hn => rne_a5 hn) hdg kk
theorem gar_6 (X : tf_X G 16 own cc nL ret p s m args meth c) (h : tf_H G 16 (rE G I L) s.heap H locs) {i : Int32} (hin : vp_in i 40) (hdg : decode cc pc = .ok (.iaload, 1)) (kk : W p l e R s m args below meth c H locs cells slots Q (F0 m (pc + 1) ls (.int (I 0 i.toNatClampNeg) :: rest))) : W p l e R s m args below meth c H locs cells slots Q (F0 m pc ls (.int i :: .ref (al G 6) :: rest)) :=
  tf_iald X h 6 (by decide) rfl hin hdg kk
theorem par_6 (X : tf_X G 16 own cc nL ret p s m args meth c) (h : tf_H G 16 (rE G I L) s.heap H locs) {i : Int32} {v : Int32} (hin : vp_in i 40) (hdg : decode cc pc = .ok (.iastore, 1)) (kk : ∀ (H1 : Heap) (locs1 : List Loc), tf_H G 16 (rE G (sI I 0 i.toNatClampNeg v) L) s.heap H1 locs1 → W p l e R s m args below meth c H1 locs1 cells slots Q (F0 m (pc + 1) ls rest)) : W p l e R s m args below meth c H locs cells slots Q (F0 m pc ls (.int v :: .int i :: .ref (al G 6) :: rest)) :=
  tf_iast X h 6 (by decide) rfl hin (by simp only [rE, sI_upd]) (fun j hj hn => rne_a6 hn) hdg kk
theorem gar_7 (X : tf_X G 16 own cc nL ret p s m args meth c) (h : tf_H G 16 (rE G I L) s.heap H locs) {i : Int32} (hin : vp_in i 40) (hdg : decode cc pc = .ok (.iaload, 1)) (kk : W p l e R s m args below meth c H locs cells slots Q (F0 m (pc + 1) ls (.int (I 1 i.toNatClampNeg) :: rest))) : W p l e R s m args below meth c H locs cells slots Q (F0 m pc ls (.int i :: .ref (al G 7) :: rest)) :=
  tf_iald X h 7 (by decide) rfl hin hdg kk
theorem par_7 (X : tf_X G 16 own cc nL ret p s m args meth c) (h : tf_H G 16 (rE G I L) s.heap H locs) {i : Int32} {v : Int32} (hin : vp_in i 40) (hdg : decode cc pc = .ok (.iastore, 1)) (kk : ∀ (H1 : Heap) (locs1 : List Loc), tf_H G 16 (rE G (sI I 1 i.toNatClampNeg v) L) s.heap H1 locs1 → W p l e R s m args below meth c H1 locs1 cells slots Q (F0 m (pc + 1) ls rest)) : W p l e R s m args below meth c H locs cells slots Q (F0 m pc ls (.int v :: .int i :: .ref (al G 7) :: rest)) :=
  tf_iast X h 7 (by decide) rfl hin (by simp only [rE, sI_upd]) (fun j hj hn => rne_a7 hn) hdg kk
theorem gar_8 (X : tf_X G 16 own cc nL ret p s m args meth c) (h : tf_H G 16 (rE G I L) s.heap H locs) {i : Int32} (hin : vp_in i 40) (hdg : decode cc pc = .ok (.iaload, 1)) (kk : W p l e R s m args below meth c H locs cells slots Q (F0 m (pc + 1) ls (.int (I 2 i.toNatClampNeg) :: rest))) : W p l e R s m args below meth c H locs cells slots Q (F0 m pc ls (.int i :: .ref (al G 8) :: rest)) :=
  tf_iald X h 8 (by decide) rfl hin hdg kk
theorem par_8 (X : tf_X G 16 own cc nL ret p s m args meth c) (h : tf_H G 16 (rE G I L) s.heap H locs) {i : Int32} {v : Int32} (hin : vp_in i 40) (hdg : decode cc pc = .ok (.iastore, 1)) (kk : ∀ (H1 : Heap) (locs1 : List Loc), tf_H G 16 (rE G (sI I 2 i.toNatClampNeg v) L) s.heap H1 locs1 → W p l e R s m args below meth c H1 locs1 cells slots Q (F0 m (pc + 1) ls rest)) : W p l e R s m args below meth c H locs cells slots Q (F0 m pc ls (.int v :: .int i :: .ref (al G 8) :: rest)) :=
  tf_iast X h 8 (by decide) rfl hin (by simp only [rE, sI_upd]) (fun j hj hn => rne_a8 hn) hdg kk
theorem gar_9 (X : tf_X G 16 own cc nL ret p s m args meth c) (h : tf_H G 16 (rE G I L) s.heap H locs) {i : Int32} (hin : vp_in i 40) (hdg : decode cc pc = .ok (.iaload, 1)) (kk : W p l e R s m args below meth c H locs cells slots Q (F0 m (pc + 1) ls (.int (I 3 i.toNatClampNeg) :: rest))) : W p l e R s m args below meth c H locs cells slots Q (F0 m pc ls (.int i :: .ref (al G 9) :: rest)) :=
  tf_iald X h 9 (by decide) rfl hin hdg kk
theorem par_9 (X : tf_X G 16 own cc nL ret p s m args meth c) (h : tf_H G 16 (rE G I L) s.heap H locs) {i : Int32} {v : Int32} (hin : vp_in i 40) (hdg : decode cc pc = .ok (.iastore, 1)) (kk : ∀ (H1 : Heap) (locs1 : List Loc), tf_H G 16 (rE G (sI I 3 i.toNatClampNeg v) L) s.heap H1 locs1 → W p l e R s m args below meth c H1 locs1 cells slots Q (F0 m (pc + 1) ls rest)) : W p l e R s m args below meth c H locs cells slots Q (F0 m pc ls (.int v :: .int i :: .ref (al G 9) :: rest)) :=
  tf_iast X h 9 (by decide) rfl hin (by simp only [rE, sI_upd]) (fun j hj hn => rne_a9 hn) hdg kk
theorem gar_10 (X : tf_X G 16 own cc nL ret p s m args meth c) (h : tf_H G 16 (rE G I L) s.heap H locs) {i : Int32} (hin : vp_in i 40) (hdg : decode cc pc = .ok (.iaload, 1)) (kk : W p l e R s m args below meth c H locs cells slots Q (F0 m (pc + 1) ls (.int (I 4 i.toNatClampNeg) :: rest))) : W p l e R s m args below meth c H locs cells slots Q (F0 m pc ls (.int i :: .ref (al G 10) :: rest)) :=
  tf_iald X h 10 (by decide) rfl hin hdg kk
theorem par_10 (X : tf_X G 16 own cc nL ret p s m args meth c) (h : tf_H G 16 (rE G I L) s.heap H locs) {i : Int32} {v : Int32} (hin : vp_in i 40) (hdg : decode cc pc = .ok (.iastore, 1)) (kk : ∀ (H1 : Heap) (locs1 : List Loc), tf_H G 16 (rE G (sI I 4 i.toNatClampNeg v) L) s.heap H1 locs1 → W p l e R s m args below meth c H1 locs1 cells slots Q (F0 m (pc + 1) ls rest)) : W p l e R s m args below meth c H locs cells slots Q (F0 m pc ls (.int v :: .int i :: .ref (al G 10) :: rest)) :=
  tf_iast X h 10 (by decide) rfl hin (by simp only [rE, sI_upd]) (fun j hj hn => rne_a10 hn) hdg kk
theorem gar_11 (X : tf_X G 16 own cc nL ret p s m args meth c) (h : tf_H G 16 (rE G I L) s.heap H locs) {i : Int32} (hin : vp_in i 40) (hdg : decode cc pc = .ok (.iaload, 1)) (kk : W p l e R s m args below meth c H locs cells slots Q (F0 m (pc + 1) ls (.int (I 5 i.toNatClampNeg) :: rest))) : W p l e R s m args below meth c H locs cells slots Q (F0 m pc ls (.int i :: .ref (al G 11) :: rest)) :=
  tf_iald X h 11 (by decide) rfl hin hdg kk
theorem par_11 (X : tf_X G 16 own cc nL ret p s m args meth c) (h : tf_H G 16 (rE G I L) s.heap H locs) {i : Int32} {v : Int32} (hin : vp_in i 40) (hdg : decode cc pc = .ok (.iastore, 1)) (kk : ∀ (H1 : Heap) (locs1 : List Loc), tf_H G 16 (rE G (sI I 5 i.toNatClampNeg v) L) s.heap H1 locs1 → W p l e R s m args below meth c H1 locs1 cells slots Q (F0 m (pc + 1) ls rest)) : W p l e R s m args below meth c H locs cells slots Q (F0 m pc ls (.int v :: .int i :: .ref (al G 11) :: rest)) :=
  tf_iast X h 11 (by decide) rfl hin (by simp only [rE, sI_upd]) (fun j hj hn => rne_a11 hn) hdg kk
theorem gar_12 (X : tf_X G 16 own cc nL ret p s m args meth c) (h : tf_H G 16 (rE G I L) s.heap H locs) {i : Int32} (hin : vp_in i 200) (hdg : decode cc pc = .ok (.iaload, 1)) (kk : W p l e R s m args below meth c H locs cells slots Q (F0 m (pc + 1) ls (.int (I 7 i.toNatClampNeg) :: rest))) : W p l e R s m args below meth c H locs cells slots Q (F0 m pc ls (.int i :: .ref (al G 12) :: rest)) :=
  tf_iald X h 12 (by decide) rfl hin hdg kk
theorem par_12 (X : tf_X G 16 own cc nL ret p s m args meth c) (h : tf_H G 16 (rE G I L) s.heap H locs) {i : Int32} {v : Int32} (hin : vp_in i 200) (hdg : decode cc pc = .ok (.iastore, 1)) (kk : ∀ (H1 : Heap) (locs1 : List Loc), tf_H G 16 (rE G (sI I 7 i.toNatClampNeg v) L) s.heap H1 locs1 → W p l e R s m args below meth c H1 locs1 cells slots Q (F0 m (pc + 1) ls rest)) : W p l e R s m args below meth c H locs cells slots Q (F0 m pc ls (.int v :: .int i :: .ref (al G 12) :: rest)) :=
  tf_iast X h 12 (by decide) rfl hin (by simp only [rE, sI_upd]) (fun j hj hn => rne_a12 hn) hdg kk
theorem gar_13 (X : tf_X G 16 own cc nL ret p s m args meth c) (h : tf_H G 16 (rE G I L) s.heap H locs) {i : Int32} (hin : vp_in i 200) (hdg : decode cc pc = .ok (.iaload, 1)) (kk : W p l e R s m args below meth c H locs cells slots Q (F0 m (pc + 1) ls (.int (I 8 i.toNatClampNeg) :: rest))) : W p l e R s m args below meth c H locs cells slots Q (F0 m pc ls (.int i :: .ref (al G 13) :: rest)) :=
  tf_iald X h 13 (by decide) rfl hin hdg kk
theorem par_13 (X : tf_X G 16 own cc nL ret p s m args meth c) (h : tf_H G 16 (rE G I L) s.heap H locs) {i : Int32} {v : Int32} (hin : vp_in i 200) (hdg : decode cc pc = .ok (.iastore, 1)) (kk : ∀ (H1 : Heap) (locs1 : List Loc), tf_H G 16 (rE G (sI I 8 i.toNatClampNeg v) L) s.heap H1 locs1 → W p l e R s m args below meth c H1 locs1 cells slots Q (F0 m (pc + 1) ls rest)) : W p l e R s m args below meth c H locs cells slots Q (F0 m pc ls (.int v :: .int i :: .ref (al G 13) :: rest)) :=
  tf_iast X h 13 (by decide) rfl hin (by simp only [rE, sI_upd]) (fun j hj hn => rne_a13 hn) hdg kk
theorem gar_14 (X : tf_X G 16 own cc nL ret p s m args meth c) (h : tf_H G 16 (rE G I L) s.heap H locs) {i : Int32} (hin : vp_in i 200) (hdg : decode cc pc = .ok (.iaload, 1)) (kk : W p l e R s m args below meth c H locs cells slots Q (F0 m (pc + 1) ls (.int (I 9 i.toNatClampNeg) :: rest))) : W p l e R s m args below meth c H locs cells slots Q (F0 m pc ls (.int i :: .ref (al G 14) :: rest)) :=
  tf_iald X h 14 (by decide) rfl hin hdg kk
theorem par_14 (X : tf_X G 16 own cc nL ret p s m args meth c) (h : tf_H G 16 (rE G I L) s.heap H locs) {i : Int32} {v : Int32} (hin : vp_in i 200) (hdg : decode cc pc = .ok (.iastore, 1)) (kk : ∀ (H1 : Heap) (locs1 : List Loc), tf_H G 16 (rE G (sI I 9 i.toNatClampNeg v) L) s.heap H1 locs1 → W p l e R s m args below meth c H1 locs1 cells slots Q (F0 m (pc + 1) ls rest)) : W p l e R s m args below meth c H locs cells slots Q (F0 m pc ls (.int v :: .int i :: .ref (al G 14) :: rest)) :=
  tf_iast X h 14 (by decide) rfl hin (by simp only [rE, sI_upd]) (fun j hj hn => rne_a14 hn) hdg kk
theorem gar_15 (X : tf_X G 16 own cc nL ret p s m args meth c) (h : tf_H G 16 (rE G I L) s.heap H locs) {i : Int32} (hin : vp_in i 200) (hdg : decode cc pc = .ok (.iaload, 1)) (kk : W p l e R s m args below meth c H locs cells slots Q (F0 m (pc + 1) ls (.int (I 10 i.toNatClampNeg) :: rest))) : W p l e R s m args below meth c H locs cells slots Q (F0 m pc ls (.int i :: .ref (al G 15) :: rest)) :=
  tf_iald X h 15 (by decide) rfl hin hdg kk
theorem par_15 (X : tf_X G 16 own cc nL ret p s m args meth c) (h : tf_H G 16 (rE G I L) s.heap H locs) {i : Int32} {v : Int32} (hin : vp_in i 200) (hdg : decode cc pc = .ok (.iastore, 1)) (kk : ∀ (H1 : Heap) (locs1 : List Loc), tf_H G 16 (rE G (sI I 10 i.toNatClampNeg v) L) s.heap H1 locs1 → W p l e R s m args below meth c H1 locs1 cells slots Q (F0 m (pc + 1) ls rest)) : W p l e R s m args below meth c H locs cells slots Q (F0 m pc ls (.int v :: .int i :: .ref (al G 15) :: rest)) :=
  tf_iast X h 15 (by decide) rfl hin (by simp only [rE, sI_upd]) (fun j hj hn => rne_a15 hn) hdg kk
end RW
end
