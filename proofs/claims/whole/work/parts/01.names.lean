-- ===== PART A: goes FIRST, ahead of the names: the tables' words, and 'selects' of the private methods out of them =====
/-- a private method of a class that the tables say can be made, by its rows of tables_1 -/
def lw_okq (q : MethodName × Nat) : Prop := (q.1.cls ≠ "java/lang/invoke/MethodHandle" ∧ q.1.cls ≠ "java/lang/invoke/VarHandle") ∧ Cond.instantiable q.1.cls q.2 ∈ tables_1 ∧ Cond.privateMethod q.1 ∈ tables_1 ∧ Cond.instanceMethod q.1 ∈ tables_1
theorem lw_p0 : lw_okq (⟨"ColdHolds$Texts", "after", "(II)I"⟩, 15) := ⟨⟨by decide +kernel, by decide +kernel⟩, List.mem_of_getElem? (i := 122) (by decide +kernel), List.mem_of_getElem? (i := 592) (by decide +kernel), List.mem_of_getElem? (i := 593) (by decide +kernel)⟩
theorem lw_p1 : lw_okq (⟨"ColdHolds$Texts", "intoFactor", "(I)I"⟩, 15) := ⟨⟨by decide +kernel, by decide +kernel⟩, List.mem_of_getElem? (i := 122) (by decide +kernel), List.mem_of_getElem? (i := 599) (by decide +kernel), List.mem_of_getElem? (i := 600) (by decide +kernel)⟩
theorem lw_p2 : lw_okq (⟨"ColdHolds$Texts", "behindFactor", "(II)I"⟩, 15) := ⟨⟨by decide +kernel, by decide +kernel⟩, List.mem_of_getElem? (i := 122) (by decide +kernel), List.mem_of_getElem? (i := 607) (by decide +kernel), List.mem_of_getElem? (i := 608) (by decide +kernel)⟩
theorem lw_p3 : lw_okq (⟨"ColdHolds", "sumOf", "(III)J"⟩, 12) := ⟨⟨by decide +kernel, by decide +kernel⟩, List.mem_of_getElem? (i := 19) (by decide +kernel), List.mem_of_getElem? (i := 633) (by decide +kernel), List.mem_of_getElem? (i := 634) (by decide +kernel)⟩
theorem lw_p4 : lw_okq (⟨"ColdHolds$Texts", "value", "([III)J"⟩, 15) := ⟨⟨by decide +kernel, by decide +kernel⟩, List.mem_of_getElem? (i := 122) (by decide +kernel), List.mem_of_getElem? (i := 641) (by decide +kernel), List.mem_of_getElem? (i := 642) (by decide +kernel)⟩
theorem lw_p5 : lw_okq (⟨"ColdHolds$Texts", "begin", "(I)V"⟩, 15) := ⟨⟨by decide +kernel, by decide +kernel⟩, List.mem_of_getElem? (i := 122) (by decide +kernel), List.mem_of_getElem? (i := 645) (by decide +kernel), List.mem_of_getElem? (i := 646) (by decide +kernel)⟩
theorem lw_p6 : lw_okq (⟨"ColdHolds$Texts", "named", "(I)I"⟩, 15) := ⟨⟨by decide +kernel, by decide +kernel⟩, List.mem_of_getElem? (i := 122) (by decide +kernel), List.mem_of_getElem? (i := 650) (by decide +kernel), List.mem_of_getElem? (i := 651) (by decide +kernel)⟩
theorem lw_p7 : lw_okq (⟨"ColdHolds", "lostGoing", "(II)I"⟩, 12) := ⟨⟨by decide +kernel, by decide +kernel⟩, List.mem_of_getElem? (i := 19) (by decide +kernel), List.mem_of_getElem? (i := 666) (by decide +kernel), List.mem_of_getElem? (i := 667) (by decide +kernel)⟩
theorem lw_p8 : lw_okq (⟨"ColdHolds$Readings", "isRead", "(I)Z"⟩, 4) := ⟨⟨by decide +kernel, by decide +kernel⟩, List.mem_of_getElem? (i := 183) (by decide +kernel), List.mem_of_getElem? (i := 708) (by decide +kernel), List.mem_of_getElem? (i := 709) (by decide +kernel)⟩
theorem lw_p9 : lw_okq (⟨"ColdHolds$Stacks", "dugFrom", "(I)I"⟩, 8) := ⟨⟨by decide +kernel, by decide +kernel⟩, List.mem_of_getElem? (i := 204) (by decide +kernel), List.mem_of_getElem? (i := 760) (by decide +kernel), List.mem_of_getElem? (i := 761) (by decide +kernel)⟩
theorem lw_p10 : lw_okq (⟨"ColdHolds$Drive", "mostOf", "(I)I"⟩, 11) := ⟨⟨by decide +kernel, by decide +kernel⟩, List.mem_of_getElem? (i := 238) (by decide +kernel), List.mem_of_getElem? (i := 797) (by decide +kernel), List.mem_of_getElem? (i := 798) (by decide +kernel)⟩
theorem lw_p11 : lw_okq (⟨"ColdHolds$Drive", "comesOf", "(II)I"⟩, 11) := ⟨⟨by decide +kernel, by decide +kernel⟩, List.mem_of_getElem? (i := 238) (by decide +kernel), List.mem_of_getElem? (i := 801) (by decide +kernel), List.mem_of_getElem? (i := 802) (by decide +kernel)⟩
theorem lw_p12 : lw_okq (⟨"ColdHolds$Market", "shippedIn", "(I)I"⟩, 6) := ⟨⟨by decide +kernel, by decide +kernel⟩, List.mem_of_getElem? (i := 285) (by decide +kernel), List.mem_of_getElem? (i := 837) (by decide +kernel), List.mem_of_getElem? (i := 838) (by decide +kernel)⟩
theorem lw_p13 : lw_okq (⟨"ColdHolds$Market", "priceIn", "(I)I"⟩, 6) := ⟨⟨by decide +kernel, by decide +kernel⟩, List.mem_of_getElem? (i := 285) (by decide +kernel), List.mem_of_getElem? (i := 842) (by decide +kernel), List.mem_of_getElem? (i := 843) (by decide +kernel)⟩
theorem lw_p14 : lw_okq (⟨"ColdHolds$Market", "sellersAt", "(I)I"⟩, 6) := ⟨⟨by decide +kernel, by decide +kernel⟩, List.mem_of_getElem? (i := 285) (by decide +kernel), List.mem_of_getElem? (i := 846) (by decide +kernel), List.mem_of_getElem? (i := 847) (by decide +kernel)⟩
theorem lw_p15 : lw_okq (⟨"ColdHolds$Market", "loadOf", "(I)I"⟩, 6) := ⟨⟨by decide +kernel, by decide +kernel⟩, List.mem_of_getElem? (i := 285) (by decide +kernel), List.mem_of_getElem? (i := 850) (by decide +kernel), List.mem_of_getElem? (i := 851) (by decide +kernel)⟩
def lw_privs_1 : List (MethodName × Nat) := [(⟨"ColdHolds$Texts", "after", "(II)I"⟩, 15), (⟨"ColdHolds$Texts", "intoFactor", "(I)I"⟩, 15), (⟨"ColdHolds$Texts", "behindFactor", "(II)I"⟩, 15), (⟨"ColdHolds", "sumOf", "(III)J"⟩, 12), (⟨"ColdHolds$Texts", "value", "([III)J"⟩, 15), (⟨"ColdHolds$Texts", "begin", "(I)V"⟩, 15), (⟨"ColdHolds$Texts", "named", "(I)I"⟩, 15), (⟨"ColdHolds", "lostGoing", "(II)I"⟩, 12), (⟨"ColdHolds$Readings", "isRead", "(I)Z"⟩, 4), (⟨"ColdHolds$Stacks", "dugFrom", "(I)I"⟩, 8), (⟨"ColdHolds$Drive", "mostOf", "(I)I"⟩, 11), (⟨"ColdHolds$Drive", "comesOf", "(II)I"⟩, 11), (⟨"ColdHolds$Market", "shippedIn", "(I)I"⟩, 6), (⟨"ColdHolds$Market", "priceIn", "(I)I"⟩, 6), (⟨"ColdHolds$Market", "sellersAt", "(I)I"⟩, 6), (⟨"ColdHolds$Market", "loadOf", "(I)I"⟩, 6)]
theorem lw_r1 : ∀ q ∈ lw_privs_1, lw_okq q := List.forall_mem_cons.mpr ⟨lw_p0, List.forall_mem_cons.mpr ⟨lw_p1, List.forall_mem_cons.mpr ⟨lw_p2, List.forall_mem_cons.mpr ⟨lw_p3, List.forall_mem_cons.mpr ⟨lw_p4, List.forall_mem_cons.mpr ⟨lw_p5, List.forall_mem_cons.mpr ⟨lw_p6, List.forall_mem_cons.mpr ⟨lw_p7, List.forall_mem_cons.mpr ⟨lw_p8, List.forall_mem_cons.mpr ⟨lw_p9, List.forall_mem_cons.mpr ⟨lw_p10, List.forall_mem_cons.mpr ⟨lw_p11, List.forall_mem_cons.mpr ⟨lw_p12, List.forall_mem_cons.mpr ⟨lw_p13, List.forall_mem_cons.mpr ⟨lw_p14, List.forall_mem_cons.mpr ⟨lw_p15, fun _ h => absurd h List.not_mem_nil⟩⟩⟩⟩⟩⟩⟩⟩⟩⟩⟩⟩⟩⟩⟩⟩
theorem lw_p16 : lw_okq (⟨"ColdHolds$Market", "alike", "(II)Z"⟩, 6) := ⟨⟨by decide +kernel, by decide +kernel⟩, List.mem_of_getElem? (i := 285) (by decide +kernel), List.mem_of_getElem? (i := 867) (by decide +kernel), List.mem_of_getElem? (i := 868) (by decide +kernel)⟩
theorem lw_p17 : lw_okq (⟨"ColdHolds$Farms", "fallenAfter", "(II)I"⟩, 5) := ⟨⟨by decide +kernel, by decide +kernel⟩, List.mem_of_getElem? (i := 312) (by decide +kernel), List.mem_of_getElem? (i := 896) (by decide +kernel), List.mem_of_getElem? (i := 897) (by decide +kernel)⟩
theorem lw_p18 : lw_okq (⟨"ColdHolds$Farms", "left", "(III)I"⟩, 5) := ⟨⟨by decide +kernel, by decide +kernel⟩, List.mem_of_getElem? (i := 312) (by decide +kernel), List.mem_of_getElem? (i := 900) (by decide +kernel), List.mem_of_getElem? (i := 901) (by decide +kernel)⟩
theorem lw_p19 : lw_okq (⟨"ColdHolds$Ring", "shipsOf", "(I)I"⟩, 4) := ⟨⟨by decide +kernel, by decide +kernel⟩, List.mem_of_getElem? (i := 338) (by decide +kernel), List.mem_of_getElem? (i := 941) (by decide +kernel), List.mem_of_getElem? (i := 942) (by decide +kernel)⟩
theorem lw_p20 : lw_okq (⟨"ColdHolds$Ring", "holds", "(I)Z"⟩, 4) := ⟨⟨by decide +kernel, by decide +kernel⟩, List.mem_of_getElem? (i := 338) (by decide +kernel), List.mem_of_getElem? (i := 958) (by decide +kernel), List.mem_of_getElem? (i := 959) (by decide +kernel)⟩
theorem lw_p21 : lw_okq (⟨"ColdHolds$Choices", "isBetter", "(III)Z"⟩, 3) := ⟨⟨by decide +kernel, by decide +kernel⟩, List.mem_of_getElem? (i := 359) (by decide +kernel), List.mem_of_getElem? (i := 992) (by decide +kernel), List.mem_of_getElem? (i := 993) (by decide +kernel)⟩
theorem lw_p22 : lw_okq (⟨"ColdHolds$Choices", "givenIn", "(II)I"⟩, 3) := ⟨⟨by decide +kernel, by decide +kernel⟩, List.mem_of_getElem? (i := 359) (by decide +kernel), List.mem_of_getElem? (i := 1000) (by decide +kernel), List.mem_of_getElem? (i := 1001) (by decide +kernel)⟩
theorem lw_p23 : lw_okq (⟨"ColdHolds", "howMany", "(I)I"⟩, 12) := ⟨⟨by decide +kernel, by decide +kernel⟩, List.mem_of_getElem? (i := 19) (by decide +kernel), List.mem_of_getElem? (i := 1011) (by decide +kernel), List.mem_of_getElem? (i := 1012) (by decide +kernel)⟩
theorem lw_p24 : lw_okq (⟨"ColdHolds", "mixLots", "(J)J"⟩, 12) := ⟨⟨by decide +kernel, by decide +kernel⟩, List.mem_of_getElem? (i := 19) (by decide +kernel), List.mem_of_getElem? (i := 1033) (by decide +kernel), List.mem_of_getElem? (i := 1034) (by decide +kernel)⟩
theorem lw_p25 : lw_okq (⟨"ColdHolds", "mixSums", "(J)J"⟩, 12) := ⟨⟨by decide +kernel, by decide +kernel⟩, List.mem_of_getElem? (i := 19) (by decide +kernel), List.mem_of_getElem? (i := 1037) (by decide +kernel), List.mem_of_getElem? (i := 1038) (by decide +kernel)⟩
theorem lw_p26 : lw_okq (⟨"ColdHoldsModel", "seaOf", "(I)I"⟩, 78) := ⟨⟨by decide +kernel, by decide +kernel⟩, List.mem_of_getElem? (i := 1077) (by decide +kernel), List.mem_of_getElem? (i := 1359) (by decide +kernel), List.mem_of_getElem? (i := 1360) (by decide +kernel)⟩
theorem lw_p27 : lw_okq (⟨"ColdHoldsModel", "startAsNow", "()V"⟩, 78) := ⟨⟨by decide +kernel, by decide +kernel⟩, List.mem_of_getElem? (i := 1077) (by decide +kernel), List.mem_of_getElem? (i := 1367) (by decide +kernel), List.mem_of_getElem? (i := 1368) (by decide +kernel)⟩
theorem lw_p28 : lw_okq (⟨"ColdHoldsModel", "anHour", "(I)Z"⟩, 78) := ⟨⟨by decide +kernel, by decide +kernel⟩, List.mem_of_getElem? (i := 1077) (by decide +kernel), List.mem_of_getElem? (i := 1371) (by decide +kernel), List.mem_of_getElem? (i := 1372) (by decide +kernel)⟩
theorem lw_p29 : lw_okq (⟨"ColdHoldsModel", "besides", "(I)I"⟩, 78) := ⟨⟨by decide +kernel, by decide +kernel⟩, List.mem_of_getElem? (i := 1077) (by decide +kernel), List.mem_of_getElem? (i := 1375) (by decide +kernel), List.mem_of_getElem? (i := 1376) (by decide +kernel)⟩
theorem lw_p30 : lw_okq (⟨"ColdHoldsModel", "above", "(I)I"⟩, 78) := ⟨⟨by decide +kernel, by decide +kernel⟩, List.mem_of_getElem? (i := 1077) (by decide +kernel), List.mem_of_getElem? (i := 1392) (by decide +kernel), List.mem_of_getElem? (i := 1393) (by decide +kernel)⟩
theorem lw_p31 : lw_okq (⟨"ColdHoldsModel", "isLot", "(I)Z"⟩, 78) := ⟨⟨by decide +kernel, by decide +kernel⟩, List.mem_of_getElem? (i := 1077) (by decide +kernel), List.mem_of_getElem? (i := 1404) (by decide +kernel), List.mem_of_getElem? (i := 1405) (by decide +kernel)⟩
def lw_privs_2 : List (MethodName × Nat) := [(⟨"ColdHolds$Market", "alike", "(II)Z"⟩, 6), (⟨"ColdHolds$Farms", "fallenAfter", "(II)I"⟩, 5), (⟨"ColdHolds$Farms", "left", "(III)I"⟩, 5), (⟨"ColdHolds$Ring", "shipsOf", "(I)I"⟩, 4), (⟨"ColdHolds$Ring", "holds", "(I)Z"⟩, 4), (⟨"ColdHolds$Choices", "isBetter", "(III)Z"⟩, 3), (⟨"ColdHolds$Choices", "givenIn", "(II)I"⟩, 3), (⟨"ColdHolds", "howMany", "(I)I"⟩, 12), (⟨"ColdHolds", "mixLots", "(J)J"⟩, 12), (⟨"ColdHolds", "mixSums", "(J)J"⟩, 12), (⟨"ColdHoldsModel", "seaOf", "(I)I"⟩, 78), (⟨"ColdHoldsModel", "startAsNow", "()V"⟩, 78), (⟨"ColdHoldsModel", "anHour", "(I)Z"⟩, 78), (⟨"ColdHoldsModel", "besides", "(I)I"⟩, 78), (⟨"ColdHoldsModel", "above", "(I)I"⟩, 78), (⟨"ColdHoldsModel", "isLot", "(I)Z"⟩, 78)]
theorem lw_r2 : ∀ q ∈ lw_privs_2, lw_okq q := List.forall_mem_cons.mpr ⟨lw_p16, List.forall_mem_cons.mpr ⟨lw_p17, List.forall_mem_cons.mpr ⟨lw_p18, List.forall_mem_cons.mpr ⟨lw_p19, List.forall_mem_cons.mpr ⟨lw_p20, List.forall_mem_cons.mpr ⟨lw_p21, List.forall_mem_cons.mpr ⟨lw_p22, List.forall_mem_cons.mpr ⟨lw_p23, List.forall_mem_cons.mpr ⟨lw_p24, List.forall_mem_cons.mpr ⟨lw_p25, List.forall_mem_cons.mpr ⟨lw_p26, List.forall_mem_cons.mpr ⟨lw_p27, List.forall_mem_cons.mpr ⟨lw_p28, List.forall_mem_cons.mpr ⟨lw_p29, List.forall_mem_cons.mpr ⟨lw_p30, List.forall_mem_cons.mpr ⟨lw_p31, fun _ h => absurd h List.not_mem_nil⟩⟩⟩⟩⟩⟩⟩⟩⟩⟩⟩⟩⟩⟩⟩⟩
theorem lw_p32 : lw_okq (⟨"ColdHoldsModel", "aboutOf", "(II)I"⟩, 78) := ⟨⟨by decide +kernel, by decide +kernel⟩, List.mem_of_getElem? (i := 1077) (by decide +kernel), List.mem_of_getElem? (i := 1412) (by decide +kernel), List.mem_of_getElem? (i := 1413) (by decide +kernel)⟩
theorem lw_p33 : lw_okq (⟨"ColdHoldsModel", "worthOf", "(I)I"⟩, 78) := ⟨⟨by decide +kernel, by decide +kernel⟩, List.mem_of_getElem? (i := 1077) (by decide +kernel), List.mem_of_getElem? (i := 1416) (by decide +kernel), List.mem_of_getElem? (i := 1417) (by decide +kernel)⟩
theorem lw_p34 : lw_okq (⟨"ColdHoldsModel", "readText", "()V"⟩, 78) := ⟨⟨by decide +kernel, by decide +kernel⟩, List.mem_of_getElem? (i := 1077) (by decide +kernel), List.mem_of_getElem? (i := 1437) (by decide +kernel), List.mem_of_getElem? (i := 1438) (by decide +kernel)⟩
theorem lw_p35 : lw_okq (⟨"ColdHoldsModel", "sumOf", "(III)J"⟩, 78) := ⟨⟨by decide +kernel, by decide +kernel⟩, List.mem_of_getElem? (i := 1077) (by decide +kernel), List.mem_of_getElem? (i := 1452) (by decide +kernel), List.mem_of_getElem? (i := 1453) (by decide +kernel)⟩
theorem lw_p36 : lw_okq (⟨"ColdHoldsModel", "markOf", "(I)I"⟩, 78) := ⟨⟨by decide +kernel, by decide +kernel⟩, List.mem_of_getElem? (i := 1077) (by decide +kernel), List.mem_of_getElem? (i := 1456) (by decide +kernel), List.mem_of_getElem? (i := 1457) (by decide +kernel)⟩
theorem lw_p37 : lw_okq (⟨"ColdHoldsModel", "sumFrom", "(III)J"⟩, 78) := ⟨⟨by decide +kernel, by decide +kernel⟩, List.mem_of_getElem? (i := 1077) (by decide +kernel), List.mem_of_getElem? (i := 1460) (by decide +kernel), List.mem_of_getElem? (i := 1461) (by decide +kernel)⟩
theorem lw_p38 : lw_okq (⟨"ColdHoldsModel", "openSum", "()V"⟩, 78) := ⟨⟨by decide +kernel, by decide +kernel⟩, List.mem_of_getElem? (i := 1077) (by decide +kernel), List.mem_of_getElem? (i := 1464) (by decide +kernel), List.mem_of_getElem? (i := 1465) (by decide +kernel)⟩
theorem lw_p39 : lw_okq (⟨"ColdHoldsModel", "closeSum", "()J"⟩, 78) := ⟨⟨by decide +kernel, by decide +kernel⟩, List.mem_of_getElem? (i := 1077) (by decide +kernel), List.mem_of_getElem? (i := 1468) (by decide +kernel), List.mem_of_getElem? (i := 1469) (by decide +kernel)⟩
theorem lw_p40 : lw_okq (⟨"ColdHoldsModel", "lostBy", "(II)I"⟩, 78) := ⟨⟨by decide +kernel, by decide +kernel⟩, List.mem_of_getElem? (i := 1077) (by decide +kernel), List.mem_of_getElem? (i := 1483) (by decide +kernel), List.mem_of_getElem? (i := 1484) (by decide +kernel)⟩
theorem lw_p41 : lw_okq (⟨"ColdHoldsModel", "goTogether", "()Z"⟩, 78) := ⟨⟨by decide +kernel, by decide +kernel⟩, List.mem_of_getElem? (i := 1077) (by decide +kernel), List.mem_of_getElem? (i := 1503) (by decide +kernel), List.mem_of_getElem? (i := 1504) (by decide +kernel)⟩
theorem lw_p42 : lw_okq (⟨"ColdHoldsModel", "couldBe", "(II)I"⟩, 78) := ⟨⟨by decide +kernel, by decide +kernel⟩, List.mem_of_getElem? (i := 1077) (by decide +kernel), List.mem_of_getElem? (i := 1507) (by decide +kernel), List.mem_of_getElem? (i := 1508) (by decide +kernel)⟩
theorem lw_p43 : lw_okq (⟨"ColdHoldsModel", "reach", "(II)I"⟩, 78) := ⟨⟨by decide +kernel, by decide +kernel⟩, List.mem_of_getElem? (i := 1077) (by decide +kernel), List.mem_of_getElem? (i := 1511) (by decide +kernel), List.mem_of_getElem? (i := 1512) (by decide +kernel)⟩
theorem lw_p44 : lw_okq (⟨"ColdHoldsModel", "seekLaid", "(II)V"⟩, 78) := ⟨⟨by decide +kernel, by decide +kernel⟩, List.mem_of_getElem? (i := 1077) (by decide +kernel), List.mem_of_getElem? (i := 1527) (by decide +kernel), List.mem_of_getElem? (i := 1528) (by decide +kernel)⟩
theorem lw_p45 : lw_okq (⟨"ColdHoldsModel", "dugWith", "(II)I"⟩, 78) := ⟨⟨by decide +kernel, by decide +kernel⟩, List.mem_of_getElem? (i := 1077) (by decide +kernel), List.mem_of_getElem? (i := 1534) (by decide +kernel), List.mem_of_getElem? (i := 1535) (by decide +kernel)⟩
theorem lw_p46 : lw_okq (⟨"ColdHoldsModel", "isFlock", "(I)Z"⟩, 78) := ⟨⟨by decide +kernel, by decide +kernel⟩, List.mem_of_getElem? (i := 1077) (by decide +kernel), List.mem_of_getElem? (i := 1550) (by decide +kernel), List.mem_of_getElem? (i := 1551) (by decide +kernel)⟩
theorem lw_p47 : lw_okq (⟨"ColdHoldsModel", "seekDriven", "()I"⟩, 78) := ⟨⟨by decide +kernel, by decide +kernel⟩, List.mem_of_getElem? (i := 1077) (by decide +kernel), List.mem_of_getElem? (i := 1562) (by decide +kernel), List.mem_of_getElem? (i := 1563) (by decide +kernel)⟩
def lw_privs_3 : List (MethodName × Nat) := [(⟨"ColdHoldsModel", "aboutOf", "(II)I"⟩, 78), (⟨"ColdHoldsModel", "worthOf", "(I)I"⟩, 78), (⟨"ColdHoldsModel", "readText", "()V"⟩, 78), (⟨"ColdHoldsModel", "sumOf", "(III)J"⟩, 78), (⟨"ColdHoldsModel", "markOf", "(I)I"⟩, 78), (⟨"ColdHoldsModel", "sumFrom", "(III)J"⟩, 78), (⟨"ColdHoldsModel", "openSum", "()V"⟩, 78), (⟨"ColdHoldsModel", "closeSum", "()J"⟩, 78), (⟨"ColdHoldsModel", "lostBy", "(II)I"⟩, 78), (⟨"ColdHoldsModel", "goTogether", "()Z"⟩, 78), (⟨"ColdHoldsModel", "couldBe", "(II)I"⟩, 78), (⟨"ColdHoldsModel", "reach", "(II)I"⟩, 78), (⟨"ColdHoldsModel", "seekLaid", "(II)V"⟩, 78), (⟨"ColdHoldsModel", "dugWith", "(II)I"⟩, 78), (⟨"ColdHoldsModel", "isFlock", "(I)Z"⟩, 78), (⟨"ColdHoldsModel", "seekDriven", "()I"⟩, 78)]
theorem lw_r3 : ∀ q ∈ lw_privs_3, lw_okq q := List.forall_mem_cons.mpr ⟨lw_p32, List.forall_mem_cons.mpr ⟨lw_p33, List.forall_mem_cons.mpr ⟨lw_p34, List.forall_mem_cons.mpr ⟨lw_p35, List.forall_mem_cons.mpr ⟨lw_p36, List.forall_mem_cons.mpr ⟨lw_p37, List.forall_mem_cons.mpr ⟨lw_p38, List.forall_mem_cons.mpr ⟨lw_p39, List.forall_mem_cons.mpr ⟨lw_p40, List.forall_mem_cons.mpr ⟨lw_p41, List.forall_mem_cons.mpr ⟨lw_p42, List.forall_mem_cons.mpr ⟨lw_p43, List.forall_mem_cons.mpr ⟨lw_p44, List.forall_mem_cons.mpr ⟨lw_p45, List.forall_mem_cons.mpr ⟨lw_p46, List.forall_mem_cons.mpr ⟨lw_p47, fun _ h => absurd h List.not_mem_nil⟩⟩⟩⟩⟩⟩⟩⟩⟩⟩⟩⟩⟩⟩⟩⟩
theorem lw_p48 : lw_okq (⟨"ColdHoldsModel", "comesOf", "(II)I"⟩, 78) := ⟨⟨by decide +kernel, by decide +kernel⟩, List.mem_of_getElem? (i := 1077) (by decide +kernel), List.mem_of_getElem? (i := 1566) (by decide +kernel), List.mem_of_getElem? (i := 1567) (by decide +kernel)⟩
theorem lw_p49 : lw_okq (⟨"ColdHoldsModel", "goWeeks", "()V"⟩, 78) := ⟨⟨by decide +kernel, by decide +kernel⟩, List.mem_of_getElem? (i := 1077) (by decide +kernel), List.mem_of_getElem? (i := 1582) (by decide +kernel), List.mem_of_getElem? (i := 1583) (by decide +kernel)⟩
theorem lw_p50 : lw_okq (⟨"ColdHoldsModel", "shippedAt", "(I)I"⟩, 78) := ⟨⟨by decide +kernel, by decide +kernel⟩, List.mem_of_getElem? (i := 1077) (by decide +kernel), List.mem_of_getElem? (i := 1586) (by decide +kernel), List.mem_of_getElem? (i := 1587) (by decide +kernel)⟩
theorem lw_p51 : lw_okq (⟨"ColdHoldsModel", "priceAt", "(I)I"⟩, 78) := ⟨⟨by decide +kernel, by decide +kernel⟩, List.mem_of_getElem? (i := 1077) (by decide +kernel), List.mem_of_getElem? (i := 1590) (by decide +kernel), List.mem_of_getElem? (i := 1591) (by decide +kernel)⟩
theorem lw_p52 : lw_okq (⟨"ColdHoldsModel", "isAgain", "(II)Z"⟩, 78) := ⟨⟨by decide +kernel, by decide +kernel⟩, List.mem_of_getElem? (i := 1077) (by decide +kernel), List.mem_of_getElem? (i := 1598) (by decide +kernel), List.mem_of_getElem? (i := 1599) (by decide +kernel)⟩
theorem lw_p53 : lw_okq (⟨"ColdHoldsModel", "fallenAt", "(I)I"⟩, 78) := ⟨⟨by decide +kernel, by decide +kernel⟩, List.mem_of_getElem? (i := 1077) (by decide +kernel), List.mem_of_getElem? (i := 1614) (by decide +kernel), List.mem_of_getElem? (i := 1615) (by decide +kernel)⟩
theorem lw_p54 : lw_okq (⟨"ColdHoldsModel", "earnsOf", "(II)J"⟩, 78) := ⟨⟨by decide +kernel, by decide +kernel⟩, List.mem_of_getElem? (i := 1077) (by decide +kernel), List.mem_of_getElem? (i := 1634) (by decide +kernel), List.mem_of_getElem? (i := 1635) (by decide +kernel)⟩
theorem lw_p55 : lw_okq (⟨"ColdHoldsModel", "shipsIn", "(I)I"⟩, 78) := ⟨⟨by decide +kernel, by decide +kernel⟩, List.mem_of_getElem? (i := 1077) (by decide +kernel), List.mem_of_getElem? (i := 1638) (by decide +kernel), List.mem_of_getElem? (i := 1639) (by decide +kernel)⟩
theorem lw_p56 : lw_okq (⟨"ColdHoldsModel", "isStable", "(I)Z"⟩, 78) := ⟨⟨by decide +kernel, by decide +kernel⟩, List.mem_of_getElem? (i := 1077) (by decide +kernel), List.mem_of_getElem? (i := 1648) (by decide +kernel), List.mem_of_getElem? (i := 1649) (by decide +kernel)⟩
theorem lw_p57 : lw_okq (⟨"ColdHoldsModel", "costOf", "(I)I"⟩, 78) := ⟨⟨by decide +kernel, by decide +kernel⟩, List.mem_of_getElem? (i := 1077) (by decide +kernel), List.mem_of_getElem? (i := 1665) (by decide +kernel), List.mem_of_getElem? (i := 1666) (by decide +kernel)⟩
theorem lw_p58 : lw_okq (⟨"ColdHoldsModel", "worstOf", "(II)I"⟩, 78) := ⟨⟨by decide +kernel, by decide +kernel⟩, List.mem_of_getElem? (i := 1077) (by decide +kernel), List.mem_of_getElem? (i := 1669) (by decide +kernel), List.mem_of_getElem? (i := 1670) (by decide +kernel)⟩
theorem lw_p59 : lw_okq (⟨"ColdHoldsModel", "countOf", "(I)I"⟩, 78) := ⟨⟨by decide +kernel, by decide +kernel⟩, List.mem_of_getElem? (i := 1077) (by decide +kernel), List.mem_of_getElem? (i := 1677) (by decide +kernel), List.mem_of_getElem? (i := 1678) (by decide +kernel)⟩
theorem lw_p60 : lw_okq (⟨"ColdHoldsModel", "mixHold", "()V"⟩, 78) := ⟨⟨by decide +kernel, by decide +kernel⟩, List.mem_of_getElem? (i := 1077) (by decide +kernel), List.mem_of_getElem? (i := 1686) (by decide +kernel), List.mem_of_getElem? (i := 1687) (by decide +kernel)⟩
theorem lw_p61 : lw_okq (⟨"ColdHoldsModel", "mix", "(J)V"⟩, 78) := ⟨⟨by decide +kernel, by decide +kernel⟩, List.mem_of_getElem? (i := 1077) (by decide +kernel), List.mem_of_getElem? (i := 1690) (by decide +kernel), List.mem_of_getElem? (i := 1691) (by decide +kernel)⟩
theorem lw_p62 : lw_okq (⟨"ColdHoldsModel", "mixLand", "()V"⟩, 78) := ⟨⟨by decide +kernel, by decide +kernel⟩, List.mem_of_getElem? (i := 1077) (by decide +kernel), List.mem_of_getElem? (i := 1695) (by decide +kernel), List.mem_of_getElem? (i := 1696) (by decide +kernel)⟩
def lw_privs_4 : List (MethodName × Nat) := [(⟨"ColdHoldsModel", "comesOf", "(II)I"⟩, 78), (⟨"ColdHoldsModel", "goWeeks", "()V"⟩, 78), (⟨"ColdHoldsModel", "shippedAt", "(I)I"⟩, 78), (⟨"ColdHoldsModel", "priceAt", "(I)I"⟩, 78), (⟨"ColdHoldsModel", "isAgain", "(II)Z"⟩, 78), (⟨"ColdHoldsModel", "fallenAt", "(I)I"⟩, 78), (⟨"ColdHoldsModel", "earnsOf", "(II)J"⟩, 78), (⟨"ColdHoldsModel", "shipsIn", "(I)I"⟩, 78), (⟨"ColdHoldsModel", "isStable", "(I)Z"⟩, 78), (⟨"ColdHoldsModel", "costOf", "(I)I"⟩, 78), (⟨"ColdHoldsModel", "worstOf", "(II)I"⟩, 78), (⟨"ColdHoldsModel", "countOf", "(I)I"⟩, 78), (⟨"ColdHoldsModel", "mixHold", "()V"⟩, 78), (⟨"ColdHoldsModel", "mix", "(J)V"⟩, 78), (⟨"ColdHoldsModel", "mixLand", "()V"⟩, 78)]
theorem lw_r4 : ∀ q ∈ lw_privs_4, lw_okq q := List.forall_mem_cons.mpr ⟨lw_p48, List.forall_mem_cons.mpr ⟨lw_p49, List.forall_mem_cons.mpr ⟨lw_p50, List.forall_mem_cons.mpr ⟨lw_p51, List.forall_mem_cons.mpr ⟨lw_p52, List.forall_mem_cons.mpr ⟨lw_p53, List.forall_mem_cons.mpr ⟨lw_p54, List.forall_mem_cons.mpr ⟨lw_p55, List.forall_mem_cons.mpr ⟨lw_p56, List.forall_mem_cons.mpr ⟨lw_p57, List.forall_mem_cons.mpr ⟨lw_p58, List.forall_mem_cons.mpr ⟨lw_p59, List.forall_mem_cons.mpr ⟨lw_p60, List.forall_mem_cons.mpr ⟨lw_p61, List.forall_mem_cons.mpr ⟨lw_p62, fun _ h => absurd h List.not_mem_nil⟩⟩⟩⟩⟩⟩⟩⟩⟩⟩⟩⟩⟩⟩⟩
def lw_privs : List (MethodName × Nat) := lw_privs_1 ++ (lw_privs_2 ++ (lw_privs_3 ++ (lw_privs_4)))
def lw_tbl : List Cond := k2_sels lw_privs ++ tables_1
theorem lw_privs_ok : ∀ q ∈ lw_privs, lw_okq q := by
  show ∀ q ∈ lw_privs_1 ++ (lw_privs_2 ++ (lw_privs_3 ++ (lw_privs_4))), lw_okq q
  exact List.forall_mem_append.mpr ⟨lw_r1, List.forall_mem_append.mpr ⟨lw_r2, List.forall_mem_append.mpr ⟨lw_r3, lw_r4⟩⟩⟩

def RX0 : String := "ColdHolds$Air"
def TX0 : u_T := fun k => match k with
  | 0 => ("ColdHolds$Air", "warmth", "[I", true)
  | 1 => ("ColdHolds$Air", "rot", "[I", true)
  | 2 => ("ColdHolds$Air", "coal", "I", false)
  | _ => ("ColdHolds$Air", "next", "[I", true)
def tyX0 : Nat → FieldType := fun k => match k with
  | 0 => .array .int
  | 1 => .array .int
  | 2 => .int
  | _ => .array .int
abbrev wsX00 : List Cond := u_ws RX0 TX0 4
theorem nmX0 : ∀ a, a < 4 → ∀ b, b < 4 → a ≠ b → (TX0 a).2.1 ≠ (TX0 b).2.1 := by decide +kernel
theorem tyX0_ok : ∀ k, k < 4 → parseFieldDescriptor (TX0 k).2.2.1 = some (tyX0 k) := by decide +kernel
abbrev cX0_init : ByteArray := prog_2_method_1_code
def yX0_init : MethodName := ⟨RX0, "<init>", "()V"⟩
abbrev cX0_takeFrom : ByteArray := prog_2_method_2_code
def yX0_takeFrom : MethodName := ⟨RX0, "takeFrom", "(LColdHolds$Air;)V"⟩
abbrev cX0_pass : ByteArray := prog_2_method_3_code
def yX0_pass : MethodName := ⟨RX0, "pass", "(LColdHolds$Hold;IZ)Z"⟩
abbrev cX0_firstAbove : ByteArray := prog_2_method_4_code
def yX0_firstAbove : MethodName := ⟨RX0, "firstAbove", "(I)I"⟩
def RX1 : String := "ColdHolds$Choices"
def TX1 : u_T := fun k => match k with
  | 0 => ("ColdHolds$Choices", "yields", "[[I", true)
  | 1 => ("ColdHolds$Choices", "many", "I", false)
  | _ => ("ColdHolds$Choices", "cost", "[I", true)
def tyX1 : Nat → FieldType := fun k => match k with
  | 0 => .array (.array .int)
  | 1 => .int
  | _ => .array .int
abbrev wsX10 : List Cond := u_ws RX1 TX1 3
theorem nmX1 : ∀ a, a < 3 → ∀ b, b < 3 → a ≠ b → (TX1 a).2.1 ≠ (TX1 b).2.1 := by decide +kernel
theorem tyX1_ok : ∀ k, k < 3 → parseFieldDescriptor (TX1 k).2.2.1 = some (tyX1 k) := by decide +kernel
abbrev cX1_init : ByteArray := prog_3_method_1_code
def yX1_init : MethodName := ⟨RX1, "<init>", "()V"⟩
abbrev cX1_add : ByteArray := prog_3_method_2_code
def yX1_add : MethodName := ⟨RX1, "add", "(I)I"⟩
abbrev cX1_bestFor : ByteArray := prog_3_method_3_code
def yX1_bestFor : MethodName := ⟨RX1, "bestFor", "(II)I"⟩
abbrev cX1_isBetter : ByteArray := prog_3_method_4_code
def yX1_isBetter : MethodName := ⟨RX1, "isBetter", "(III)Z"⟩
abbrev cX1_costOf : ByteArray := prog_3_method_5_code
def yX1_costOf : MethodName := ⟨RX1, "costOf", "(I)I"⟩
abbrev cX1_worstOf : ByteArray := prog_3_method_6_code
def yX1_worstOf : MethodName := ⟨RX1, "worstOf", "(II)I"⟩
abbrev cX1_givenIn : ByteArray := prog_3_method_7_code
def yX1_givenIn : MethodName := ⟨RX1, "givenIn", "(II)I"⟩
abbrev cX1_mixed : ByteArray := prog_3_method_8_code
def yX1_mixed : MethodName := ⟨RX1, "mixed", "(J)J"⟩
def RX2 : String := "ColdHolds$Drive"
def TX2 : u_T := fun k => match k with
  | 0 => ("ColdHolds$Drive", "takes", "[I", true)
  | 1 => ("ColdHolds$Drive", "away", "[[I", true)
  | 2 => ("ColdHolds$Drive", "many", "I", false)
  | 3 => ("ColdHolds$Drive", "aDay", "I", false)
  | 4 => ("ColdHolds$Drive", "most", "I", false)
  | 5 => ("ColdHolds$Drive", "sheep", "[I", true)
  | 6 => ("ColdHolds$Drive", "fat", "[I", true)
  | 7 => ("ColdHolds$Drive", "room", "[I", true)
  | 8 => ("ColdHolds$Drive", "goes", "[I", true)
  | 9 => ("ColdHolds$Drive", "best", "[I", true)
  | _ => ("ColdHolds$Drive", "hope", "[I", true)
def tyX2 : Nat → FieldType := fun k => match k with
  | 0 => .array .int
  | 1 => .array (.array .int)
  | 2 => .int
  | 3 => .int
  | 4 => .int
  | 5 => .array .int
  | 6 => .array .int
  | 7 => .array .int
  | 8 => .array .int
  | 9 => .array .int
  | _ => .array .int
abbrev wsX20 : List Cond := u_ws RX2 TX2 11
theorem nmX2 : ∀ a, a < 11 → ∀ b, b < 11 → a ≠ b → (TX2 a).2.1 ≠ (TX2 b).2.1 := by decide +kernel
theorem tyX2_ok : ∀ k, k < 11 → parseFieldDescriptor (TX2 k).2.2.1 = some (tyX2 k) := by decide +kernel
abbrev cX2_init : ByteArray := prog_4_method_1_code
def yX2_init : MethodName := ⟨RX2, "<init>", "()V"⟩
abbrev cX2_add : ByteArray := prog_4_method_2_code
def yX2_add : MethodName := ⟨RX2, "add", "(II)I"⟩
abbrev cX2_goesOf : ByteArray := prog_4_method_3_code
def yX2_goesOf : MethodName := ⟨RX2, "goesOf", "(I)I"⟩
abbrev cX2_comesOf : ByteArray := prog_4_method_4_code
def yX2_comesOf : MethodName := ⟨RX2, "comesOf", "(II)I"⟩
abbrev cX2_driveBest : ByteArray := prog_4_method_5_code
def yX2_driveBest : MethodName := ⟨RX2, "driveBest", "()V"⟩
abbrev cX2_mostOf : ByteArray := prog_4_method_6_code
def yX2_mostOf : MethodName := ⟨RX2, "mostOf", "(I)I"⟩
abbrev cX2_send : ByteArray := prog_4_method_7_code
def yX2_send : MethodName := ⟨RX2, "send", "(LColdHolds$Drive;II)V"⟩
abbrev cX2_mixed : ByteArray := prog_4_method_8_code
def yX2_mixed : MethodName := ⟨RX2, "mixed", "(J)J"⟩
def RX3 : String := "ColdHolds$Farms"
def TX3 : u_T := fun k => match k with
  | 0 => ("ColdHolds$Farms", "owes", "[[I", true)
  | 1 => ("ColdHolds$Farms", "many", "I", false)
  | 2 => ("ColdHolds$Farms", "rounds", "I", false)
  | 3 => ("ColdHolds$Farms", "gain", "[I", true)
  | _ => ("ColdHolds$Farms", "own", "[I", true)
def tyX3 : Nat → FieldType := fun k => match k with
  | 0 => .array (.array .int)
  | 1 => .int
  | 2 => .int
  | 3 => .array .int
  | _ => .array .int
abbrev wsX30 : List Cond := u_ws RX3 TX3 5
theorem nmX3 : ∀ a, a < 5 → ∀ b, b < 5 → a ≠ b → (TX3 a).2.1 ≠ (TX3 b).2.1 := by decide +kernel
theorem tyX3_ok : ∀ k, k < 5 → parseFieldDescriptor (TX3 k).2.2.1 = some (tyX3 k) := by decide +kernel
abbrev cX3_init : ByteArray := prog_5_method_1_code
def yX3_init : MethodName := ⟨RX3, "<init>", "()V"⟩
abbrev cX3_isOne : ByteArray := prog_5_method_2_code
def yX3_isOne : MethodName := ⟨RX3, "isOne", "(I)Z"⟩
abbrev cX3_add : ByteArray := prog_5_method_3_code
def yX3_add : MethodName := ⟨RX3, "add", "(II)I"⟩
abbrev cX3_fallenAt : ByteArray := prog_5_method_4_code
def yX3_fallenAt : MethodName := ⟨RX3, "fallenAt", "(I)I"⟩
abbrev cX3_fallenAfter : ByteArray := prog_5_method_5_code
def yX3_fallenAfter : MethodName := ⟨RX3, "fallenAfter", "(II)I"⟩
abbrev cX3_left : ByteArray := prog_5_method_6_code
def yX3_left : MethodName := ⟨RX3, "left", "(III)I"⟩
abbrev cX3_leastPrice : ByteArray := prog_5_method_7_code
def yX3_leastPrice : MethodName := ⟨RX3, "leastPrice", "(I)I"⟩
abbrev cX3_mixed : ByteArray := prog_5_method_8_code
def yX3_mixed : MethodName := ⟨RX3, "mixed", "(J)J"⟩
def RX4 : String := "ColdHolds$Hold"
def TX4 : u_T := fun k => match k with
  | 0 => ("ColdHolds$Hold", "outer", "[I", true)
  | 1 => ("ColdHolds$Hold", "pipe", "[I", true)
  | 2 => ("ColdHolds$Hold", "set", "[I", true)
  | 3 => ("ColdHolds$Hold", "legs", "I", false)
  | 4 => ("ColdHolds$Hold", "gone", "I", false)
  | 5 => ("ColdHolds$Hold", "brokenFrom", "I", false)
  | 6 => ("ColdHolds$Hold", "legHours", "[I", true)
  | _ => ("ColdHolds$Hold", "legSea", "[I", true)
def tyX4 : Nat → FieldType := fun k => match k with
  | 0 => .array .int
  | 1 => .array .int
  | 2 => .array .int
  | 3 => .int
  | 4 => .int
  | 5 => .int
  | 6 => .array .int
  | _ => .array .int
abbrev wsX40 : List Cond := u_ws RX4 TX4 8
theorem nmX4 : ∀ a, a < 8 → ∀ b, b < 8 → a ≠ b → (TX4 a).2.1 ≠ (TX4 b).2.1 := by decide +kernel
theorem tyX4_ok : ∀ k, k < 8 → parseFieldDescriptor (TX4 k).2.2.1 = some (tyX4 k) := by decide +kernel
abbrev cX4_init : ByteArray := prog_6_method_1_code
def yX4_init : MethodName := ⟨RX4, "<init>", "()V"⟩
abbrev cX4_addLeg : ByteArray := prog_6_method_2_code
def yX4_addLeg : MethodName := ⟨RX4, "addLeg", "(II)I"⟩
abbrev cX4_allHours : ByteArray := prog_6_method_3_code
def yX4_allHours : MethodName := ⟨RX4, "allHours", "()I"⟩
abbrev cX4_seaOf : ByteArray := prog_6_method_4_code
def yX4_seaOf : MethodName := ⟨RX4, "seaOf", "(I)I"⟩
abbrev cX4_nextWarmth : ByteArray := prog_6_method_5_code
def yX4_nextWarmth : MethodName := ⟨RX4, "nextWarmth", "([IIIZ)I"⟩
abbrev cX4_pull : ByteArray := prog_6_method_6_code
def yX4_pull : MethodName := ⟨RX4, "pull", "([II)I"⟩
abbrev cX4_mixed : ByteArray := prog_6_method_7_code
def yX4_mixed : MethodName := ⟨RX4, "mixed", "(J[I)J"⟩
def RX5 : String := "ColdHolds$Lots"
def TX5 : u_T := fun k => match k with
  | 0 => ("ColdHolds$Lots", "kind", "[I", true)
  | 1 => ("ColdHolds$Lots", "cell", "[I", true)
  | 2 => ("ColdHolds$Lots", "laidAt", "[I", true)
  | 3 => ("ColdHolds$Lots", "many", "I", false)
  | _ => ("ColdHolds$Lots", "came", "[[I", true)
def tyX5 : Nat → FieldType := fun k => match k with
  | 0 => .array .int
  | 1 => .array .int
  | 2 => .array .int
  | 3 => .int
  | _ => .array (.array .int)
abbrev wsX50 : List Cond := u_ws RX5 TX5 5
theorem nmX5 : ∀ a, a < 5 → ∀ b, b < 5 → a ≠ b → (TX5 a).2.1 ≠ (TX5 b).2.1 := by decide +kernel
theorem tyX5_ok : ∀ k, k < 5 → parseFieldDescriptor (TX5 k).2.2.1 = some (tyX5 k) := by decide +kernel
abbrev cX5_init : ByteArray := prog_7_method_1_code
def yX5_init : MethodName := ⟨RX5, "<init>", "()V"⟩
abbrev cX5_isKind : ByteArray := prog_7_method_2_code
def yX5_isKind : MethodName := ⟨RX5, "isKind", "(I)Z"⟩
abbrev cX5_isSuch : ByteArray := prog_7_method_3_code
def yX5_isSuch : MethodName := ⟨RX5, "isSuch", "(II)Z"⟩
abbrev cX5_isOne : ByteArray := prog_7_method_4_code
def yX5_isOne : MethodName := ⟨RX5, "isOne", "(I)Z"⟩
abbrev cX5_add : ByteArray := prog_7_method_5_code
def yX5_add : MethodName := ⟨RX5, "add", "(III)I"⟩
abbrev cX5_spoilIn : ByteArray := prog_7_method_6_code
def yX5_spoilIn : MethodName := ⟨RX5, "spoilIn", "(LColdHolds$Air;)V"⟩
abbrev cX5_noteStates : ByteArray := prog_7_method_7_code
def yX5_noteStates : MethodName := ⟨RX5, "noteStates", "(LColdHolds$Air;I)V"⟩
abbrev cX5_lostIn : ByteArray := prog_7_method_8_code
def yX5_lostIn : MethodName := ⟨RX5, "lostIn", "(LColdHolds$Air;)I"⟩
abbrev cX5_tell : ByteArray := prog_7_method_9_code
def yX5_tell : MethodName := ⟨RX5, "tell", "(IILColdHolds$Air;I)I"⟩
abbrev cX5_stateFrom : ByteArray := prog_7_method_10_code
def yX5_stateFrom : MethodName := ⟨RX5, "stateFrom", "(I)I"⟩
abbrev cX5_spoils : ByteArray := prog_7_method_11_code
def yX5_spoils : MethodName := ⟨RX5, "spoils", "(II)I"⟩
abbrev cX5_carcassSpoils : ByteArray := prog_7_method_12_code
def yX5_carcassSpoils : MethodName := ⟨RX5, "carcassSpoils", "(I)I"⟩
abbrev cX5_worth : ByteArray := prog_7_method_13_code
def yX5_worth : MethodName := ⟨RX5, "worth", "(I)I"⟩
def RX6 : String := "ColdHolds$Market"
def TX6 : u_T := fun k => match k with
  | 0 => ("ColdHolds$Market", "set", "[I", true)
  | 1 => ("ColdHolds$Market", "many", "I", false)
  | 2 => ("ColdHolds$Market", "load", "[I", true)
  | 3 => ("ColdHolds$Market", "limit", "[I", true)
  | 4 => ("ColdHolds$Market", "price", "[I", true)
  | _ => ("ColdHolds$Market", "shipped", "[I", true)
def tyX6 : Nat → FieldType := fun k => match k with
  | 0 => .array .int
  | 1 => .int
  | 2 => .array .int
  | 3 => .array .int
  | 4 => .array .int
  | _ => .array .int
abbrev wsX60 : List Cond := u_ws RX6 TX6 6
theorem nmX6 : ∀ a, a < 6 → ∀ b, b < 6 → a ≠ b → (TX6 a).2.1 ≠ (TX6 b).2.1 := by decide +kernel
theorem tyX6_ok : ∀ k, k < 6 → parseFieldDescriptor (TX6 k).2.2.1 = some (tyX6 k) := by decide +kernel
abbrev cX6_init : ByteArray := prog_8_method_1_code
def yX6_init : MethodName := ⟨RX6, "<init>", "()V"⟩
abbrev cX6_add : ByteArray := prog_8_method_2_code
def yX6_add : MethodName := ⟨RX6, "add", "(II)I"⟩
abbrev cX6_run : ByteArray := prog_8_method_3_code
def yX6_run : MethodName := ⟨RX6, "run", "()V"⟩
abbrev cX6_priceIn : ByteArray := prog_8_method_4_code
def yX6_priceIn : MethodName := ⟨RX6, "priceIn", "(I)I"⟩
abbrev cX6_shippedIn : ByteArray := prog_8_method_5_code
def yX6_shippedIn : MethodName := ⟨RX6, "shippedIn", "(I)I"⟩
abbrev cX6_sellersAt : ByteArray := prog_8_method_6_code
def yX6_sellersAt : MethodName := ⟨RX6, "sellersAt", "(I)I"⟩
abbrev cX6_loadOf : ByteArray := prog_8_method_7_code
def yX6_loadOf : MethodName := ⟨RX6, "loadOf", "(I)I"⟩
abbrev cX6_tell : ByteArray := prog_8_method_8_code
def yX6_tell : MethodName := ⟨RX6, "tell", "(II)I"⟩
abbrev cX6_turn : ByteArray := prog_8_method_9_code
def yX6_turn : MethodName := ⟨RX6, "turn", "(I)I"⟩
abbrev cX6_alike : ByteArray := prog_8_method_10_code
def yX6_alike : MethodName := ⟨RX6, "alike", "(II)Z"⟩
abbrev cX6_mixed : ByteArray := prog_8_method_11_code
def yX6_mixed : MethodName := ⟨RX6, "mixed", "(J)J"⟩
def RX7 : String := "ColdHolds$Readings"
def TX7 : u_T := fun k => match k with
  | 0 => ("ColdHolds$Readings", "many", "I", false)
  | 1 => ("ColdHolds$Readings", "rate", "I", false)
  | 2 => ("ColdHolds$Readings", "hours", "[I", true)
  | _ => ("ColdHolds$Readings", "numbers", "[I", true)
def tyX7 : Nat → FieldType := fun k => match k with
  | 0 => .int
  | 1 => .int
  | 2 => .array .int
  | _ => .array .int
abbrev wsX70 : List Cond := u_ws RX7 TX7 4
theorem nmX7 : ∀ a, a < 4 → ∀ b, b < 4 → a ≠ b → (TX7 a).2.1 ≠ (TX7 b).2.1 := by decide +kernel
theorem tyX7_ok : ∀ k, k < 4 → parseFieldDescriptor (TX7 k).2.2.1 = some (tyX7 k) := by decide +kernel
abbrev cX7_init : ByteArray := prog_9_method_1_code
def yX7_init : MethodName := ⟨RX7, "<init>", "()V"⟩
abbrev cX7_add : ByteArray := prog_9_method_2_code
def yX7_add : MethodName := ⟨RX7, "add", "(II)I"⟩
abbrev cX7_isRead : ByteArray := prog_9_method_3_code
def yX7_isRead : MethodName := ⟨RX7, "isRead", "(I)Z"⟩
abbrev cX7_agree : ByteArray := prog_9_method_4_code
def yX7_agree : MethodName := ⟨RX7, "agree", "()Z"⟩
abbrev cX7_least : ByteArray := prog_9_method_5_code
def yX7_least : MethodName := ⟨RX7, "least", "(I)I"⟩
abbrev cX7_greatest : ByteArray := prog_9_method_6_code
def yX7_greatest : MethodName := ⟨RX7, "greatest", "(I)I"⟩
abbrev cX7_above : ByteArray := prog_9_method_7_code
def yX7_above : MethodName := ⟨RX7, "above", "(III)I"⟩
abbrev cX7_mixed : ByteArray := prog_9_method_8_code
def yX7_mixed : MethodName := ⟨RX7, "mixed", "(J)J"⟩
def RX8 : String := "ColdHolds$Ring"
def TX8 : u_T := fun k => match k with
  | 0 => ("ColdHolds$Ring", "set", "[I", true)
  | 1 => ("ColdHolds$Ring", "many", "I", false)
  | 2 => ("ColdHolds$Ring", "ships", "[I", true)
  | _ => ("ColdHolds$Ring", "cost", "[I", true)
def tyX8 : Nat → FieldType := fun k => match k with
  | 0 => .array .int
  | 1 => .int
  | 2 => .array .int
  | _ => .array .int
abbrev wsX80 : List Cond := u_ws RX8 TX8 4
theorem nmX8 : ∀ a, a < 4 → ∀ b, b < 4 → a ≠ b → (TX8 a).2.1 ≠ (TX8 b).2.1 := by decide +kernel
theorem tyX8_ok : ∀ k, k < 4 → parseFieldDescriptor (TX8 k).2.2.1 = some (tyX8 k) := by decide +kernel
abbrev cX8_init : ByteArray := prog_10_method_1_code
def yX8_init : MethodName := ⟨RX8, "<init>", "()V"⟩
abbrev cX8_add : ByteArray := prog_10_method_2_code
def yX8_add : MethodName := ⟨RX8, "add", "(II)I"⟩
abbrev cX8_allSets : ByteArray := prog_10_method_3_code
def yX8_allSets : MethodName := ⟨RX8, "allSets", "()I"⟩
abbrev cX8_isIn : ByteArray := prog_10_method_4_code
def yX8_isIn : MethodName := ⟨RX8, "isIn", "(II)Z"⟩
abbrev cX8_shipsOf : ByteArray := prog_10_method_5_code
def yX8_shipsOf : MethodName := ⟨RX8, "shipsOf", "(I)I"⟩
abbrev cX8_earned : ByteArray := prog_10_method_6_code
def yX8_earned : MethodName := ⟨RX8, "earned", "(II)J"⟩
abbrev cX8_holds : ByteArray := prog_10_method_7_code
def yX8_holds : MethodName := ⟨RX8, "holds", "(I)Z"⟩
abbrev cX8_howManyHold : ByteArray := prog_10_method_8_code
def yX8_howManyHold : MethodName := ⟨RX8, "howManyHold", "()I"⟩
abbrev cX8_greatestThatHolds : ByteArray := prog_10_method_9_code
def yX8_greatestThatHolds : MethodName := ⟨RX8, "greatestThatHolds", "()I"⟩
abbrev cX8_mixed : ByteArray := prog_10_method_10_code
def yX8_mixed : MethodName := ⟨RX8, "mixed", "(J)J"⟩
def RX9 : String := "ColdHolds$Stacks"
def TX9 : u_T := fun k => match k with
  | 0 => ("ColdHolds$Stacks", "day", "[I", true)
  | 1 => ("ColdHolds$Stacks", "many", "I", false)
  | 2 => ("ColdHolds$Stacks", "fewest", "I", false)
  | 3 => ("ColdHolds$Stacks", "stacks", "I", false)
  | 4 => ("ColdHolds$Stacks", "high", "I", false)
  | 5 => ("ColdHolds$Stacks", "height", "[I", true)
  | 6 => ("ColdHolds$Stacks", "laidOn", "[I", true)
  | _ => ("ColdHolds$Stacks", "best", "[I", true)
def tyX9 : Nat → FieldType := fun k => match k with
  | 0 => .array .int
  | 1 => .int
  | 2 => .int
  | 3 => .int
  | 4 => .int
  | 5 => .array .int
  | 6 => .array .int
  | _ => .array .int
abbrev wsX90 : List Cond := u_ws RX9 TX9 8
theorem nmX9 : ∀ a, a < 8 → ∀ b, b < 8 → a ≠ b → (TX9 a).2.1 ≠ (TX9 b).2.1 := by decide +kernel
theorem tyX9_ok : ∀ k, k < 8 → parseFieldDescriptor (TX9 k).2.2.1 = some (tyX9 k) := by decide +kernel
abbrev cX9_init : ByteArray := prog_11_method_1_code
def yX9_init : MethodName := ⟨RX9, "<init>", "()V"⟩
abbrev cX9_add : ByteArray := prog_11_method_2_code
def yX9_add : MethodName := ⟨RX9, "add", "(I)I"⟩
abbrev cX9_stackOf : ByteArray := prog_11_method_3_code
def yX9_stackOf : MethodName := ⟨RX9, "stackOf", "(I)I"⟩
abbrev cX9_layBest : ByteArray := prog_11_method_4_code
def yX9_layBest : MethodName := ⟨RX9, "layBest", "(II)Z"⟩
abbrev cX9_place : ByteArray := prog_11_method_5_code
def yX9_place : MethodName := ⟨RX9, "place", "(LColdHolds$Stacks;III)V"⟩
abbrev cX9_dugFrom : ByteArray := prog_11_method_6_code
def yX9_dugFrom : MethodName := ⟨RX9, "dugFrom", "(I)I"⟩
def RX10 : String := "ColdHolds$Texts"
def TX10 : u_T := fun k => match k with
  | 0 => ("ColdHolds$Texts", "page", "[I", true)
  | 1 => ("ColdHolds$Texts", "letters", "I", false)
  | 2 => ("ColdHolds$Texts", "many", "I", false)
  | 3 => ("ColdHolds$Texts", "rot", "I", false)
  | 4 => ("ColdHolds$Texts", "warmth", "I", false)
  | 5 => ("ColdHolds$Texts", "since", "I", false)
  | 6 => ("ColdHolds$Texts", "kind", "I", false)
  | 7 => ("ColdHolds$Texts", "rows", "[[I", true)
  | 8 => ("ColdHolds$Texts", "length", "[I", true)
  | 9 => ("ColdHolds$Texts", "sign", "[I", true)
  | 10 => ("ColdHolds$Texts", "sums", "[J", true)
  | 11 => ("ColdHolds$Texts", "products", "[J", true)
  | 12 => ("ColdHolds$Texts", "awaits", "I", false)
  | 13 => ("ColdHolds$Texts", "depth", "I", false)
  | _ => ("ColdHolds$Texts", "signAt", "I", false)
def tyX10 : Nat → FieldType := fun k => match k with
  | 0 => .array .int
  | 1 => .int
  | 2 => .int
  | 3 => .int
  | 4 => .int
  | 5 => .int
  | 6 => .int
  | 7 => .array (.array .int)
  | 8 => .array .int
  | 9 => .array .int
  | 10 => .array .long
  | 11 => .array .long
  | 12 => .int
  | 13 => .int
  | _ => .int
abbrev wsX100 : List Cond := u_ws RX10 TX10 15
theorem nmX10 : ∀ a, a < 15 → ∀ b, b < 15 → a ≠ b → (TX10 a).2.1 ≠ (TX10 b).2.1 := by decide +kernel
theorem tyX10_ok : ∀ k, k < 15 → parseFieldDescriptor (TX10 k).2.2.1 = some (tyX10 k) := by decide +kernel
abbrev cX10_init : ByteArray := prog_12_method_1_code
def yX10_init : MethodName := ⟨RX10, "<init>", "()V"⟩
abbrev cX10_lettersIn : ByteArray := prog_12_method_2_code
def yX10_lettersIn : MethodName := ⟨RX10, "lettersIn", "(J)I"⟩
abbrev cX10_code : ByteArray := prog_12_method_3_code
def yX10_code : MethodName := ⟨RX10, "code", "(JI)I"⟩
abbrev cX10_append : ByteArray := prog_12_method_4_code
def yX10_append : MethodName := ⟨RX10, "append", "(JI)I"⟩
abbrev cX10_scan : ByteArray := prog_12_method_5_code
def yX10_scan : MethodName := ⟨RX10, "scan", "()I"⟩
abbrev cX10_after : ByteArray := prog_12_method_6_code
def yX10_after : MethodName := ⟨RX10, "after", "(II)I"⟩
abbrev cX10_intoFactor : ByteArray := prog_12_method_7_code
def yX10_intoFactor : MethodName := ⟨RX10, "intoFactor", "(I)I"⟩
abbrev cX10_behindFactor : ByteArray := prog_12_method_8_code
def yX10_behindFactor : MethodName := ⟨RX10, "behindFactor", "(II)I"⟩
abbrev cX10_isDigit : ByteArray := prog_12_method_9_code
def yX10_isDigit : MethodName := ⟨RX10, "isDigit", "(I)Z"⟩
abbrev cX10_letterNumber : ByteArray := prog_12_method_10_code
def yX10_letterNumber : MethodName := ⟨RX10, "letterNumber", "(I)I"⟩
abbrev cX10_isWhole : ByteArray := prog_12_method_11_code
def yX10_isWhole : MethodName := ⟨RX10, "isWhole", "()Z"⟩
abbrev cX10_keepPage : ByteArray := prog_12_method_12_code
def yX10_keepPage : MethodName := ⟨RX10, "keepPage", "()I"⟩
abbrev cX10_lastOf : ByteArray := prog_12_method_13_code
def yX10_lastOf : MethodName := ⟨RX10, "lastOf", "(I)I"⟩
abbrev cX10_holds : ByteArray := prog_12_method_14_code
def yX10_holds : MethodName := ⟨RX10, "holds", "(IJJ)Z"⟩
abbrev cX10_valueOf : ByteArray := prog_12_method_15_code
def yX10_valueOf : MethodName := ⟨RX10, "valueOf", "(II)J"⟩
abbrev cX10_value : ByteArray := prog_12_method_16_code
def yX10_value : MethodName := ⟨RX10, "value", "([III)J"⟩
abbrev cX10_begin : ByteArray := prog_12_method_17_code
def yX10_begin : MethodName := ⟨RX10, "begin", "(I)V"⟩
abbrev cX10_named : ByteArray := prog_12_method_18_code
def yX10_named : MethodName := ⟨RX10, "named", "(I)I"⟩
def RX11 : String := "ColdHolds"
def TX11 : u_T := fun k => match k with
  | 0 => ("ColdHolds", "hold", "LColdHolds$Hold;", true)
  | 1 => ("ColdHolds", "air", "LColdHolds$Air;", true)
  | 2 => ("ColdHolds", "trial", "LColdHolds$Air;", true)
  | 3 => ("ColdHolds", "lots", "LColdHolds$Lots;", true)
  | 4 => ("ColdHolds", "texts", "LColdHolds$Texts;", true)
  | 5 => ("ColdHolds", "readings", "LColdHolds$Readings;", true)
  | 6 => ("ColdHolds", "stacks", "LColdHolds$Stacks;", true)
  | 7 => ("ColdHolds", "drive", "LColdHolds$Drive;", true)
  | 8 => ("ColdHolds", "market", "LColdHolds$Market;", true)
  | 9 => ("ColdHolds", "farms", "LColdHolds$Farms;", true)
  | 10 => ("ColdHolds", "ring", "LColdHolds$Ring;", true)
  | _ => ("ColdHolds", "choices", "LColdHolds$Choices;", true)
def tyX11 : Nat → FieldType := fun k => match k with
  | 0 => .object "ColdHolds$Hold"
  | 1 => .object "ColdHolds$Air"
  | 2 => .object "ColdHolds$Air"
  | 3 => .object "ColdHolds$Lots"
  | 4 => .object "ColdHolds$Texts"
  | 5 => .object "ColdHolds$Readings"
  | 6 => .object "ColdHolds$Stacks"
  | 7 => .object "ColdHolds$Drive"
  | 8 => .object "ColdHolds$Market"
  | 9 => .object "ColdHolds$Farms"
  | 10 => .object "ColdHolds$Ring"
  | _ => .object "ColdHolds$Choices"
abbrev wsX110 : List Cond := u_ws RX11 TX11 12
theorem nmX11 : ∀ a, a < 12 → ∀ b, b < 12 → a ≠ b → (TX11 a).2.1 ≠ (TX11 b).2.1 := by decide +kernel
theorem tyX11_ok : ∀ k, k < 12 → parseFieldDescriptor (TX11 k).2.2.1 = some (tyX11 k) := by decide +kernel
abbrev cX11_init : ByteArray := prog_1_method_1_code
def yX11_init : MethodName := ⟨RX11, "<init>", "()V"⟩
abbrev cX11_within : ByteArray := prog_1_method_2_code
def yX11_within : MethodName := ⟨RX11, "within", "(III)Z"⟩
abbrev cX11_isCell : ByteArray := prog_1_method_3_code
def yX11_isCell : MethodName := ⟨RX11, "isCell", "(I)Z"⟩
abbrev cX11_isWarmth : ByteArray := prog_1_method_4_code
def yX11_isWarmth : MethodName := ⟨RX11, "isWarmth", "(I)Z"⟩
abbrev cX11_change : ByteArray := prog_1_method_5_code
def yX11_change : MethodName := ⟨RX11, "change", "([III)I"⟩
abbrev cX11_mix : ByteArray := prog_1_method_6_code
def yX11_mix : MethodName := ⟨RX11, "mix", "(JJ)J"⟩
abbrev cX11_mixRow : ByteArray := prog_1_method_7_code
def yX11_mixRow : MethodName := ⟨RX11, "mixRow", "(J[II)J"⟩
abbrev cX11_leg : ByteArray := prog_1_method_8_code
def yX11_leg : MethodName := ⟨RX11, "leg", "(II)I"⟩
abbrev cX11_warm : ByteArray := prog_1_method_9_code
def yX11_warm : MethodName := ⟨RX11, "warm", "(II)I"⟩
abbrev cX11_warmth : ByteArray := prog_1_method_10_code
def yX11_warmth : MethodName := ⟨RX11, "warmth", "(I)I"⟩
abbrev cX11_outer : ByteArray := prog_1_method_11_code
def yX11_outer : MethodName := ⟨RX11, "outer", "(II)I"⟩
abbrev cX11_pipe : ByteArray := prog_1_method_12_code
def yX11_pipe : MethodName := ⟨RX11, "pipe", "(IZ)I"⟩
abbrev cX11_engine : ByteArray := prog_1_method_13_code
def yX11_engine : MethodName := ⟨RX11, "engine", "(II)I"⟩
abbrev cX11_breaks : ByteArray := prog_1_method_14_code
def yX11_breaks : MethodName := ⟨RX11, "breaks", "(I)I"⟩
abbrev cX11_sea : ByteArray := prog_1_method_15_code
def yX11_sea : MethodName := ⟨RX11, "sea", "(I)I"⟩
abbrev cX11_hours : ByteArray := prog_1_method_16_code
def yX11_hours : MethodName := ⟨RX11, "hours", "(I)I"⟩
abbrev cX11_first : ByteArray := prog_1_method_17_code
def yX11_first : MethodName := ⟨RX11, "first", "(II)I"⟩
abbrev cX11_lot : ByteArray := prog_1_method_18_code
def yX11_lot : MethodName := ⟨RX11, "lot", "(II)I"⟩
abbrev cX11_lay : ByteArray := prog_1_method_19_code
def yX11_lay : MethodName := ⟨RX11, "lay", "(II)I"⟩
abbrev cX11_about : ByteArray := prog_1_method_20_code
def yX11_about : MethodName := ⟨RX11, "about", "(II)I"⟩
abbrev cX11_as : ByteArray := prog_1_method_21_code
def yX11_as : MethodName := ⟨RX11, "as", "(II)I"⟩
abbrev cX11_letters : ByteArray := prog_1_method_22_code
def yX11_letters : MethodName := ⟨RX11, "letters", "(J)I"⟩
abbrev cX11_blank : ByteArray := prog_1_method_23_code
def yX11_blank : MethodName := ⟨RX11, "blank", "()I"⟩
abbrev cX11_fault : ByteArray := prog_1_method_24_code
def yX11_fault : MethodName := ⟨RX11, "fault", "()I"⟩
abbrev cX11_text : ByteArray := prog_1_method_25_code
def yX11_text : MethodName := ⟨RX11, "text", "()I"⟩
abbrev cX11_says : ByteArray := prog_1_method_26_code
def yX11_says : MethodName := ⟨RX11, "says", "(II)I"⟩
abbrev cX11_sum : ByteArray := prog_1_method_27_code
def yX11_sum : MethodName := ⟨RX11, "sum", "(III)J"⟩
abbrev cX11_sumOf : ByteArray := prog_1_method_28_code
def yX11_sumOf : MethodName := ⟨RX11, "sumOf", "(III)J"⟩
abbrev cX11_lost : ByteArray := prog_1_method_29_code
def yX11_lost : MethodName := ⟨RX11, "lost", "(II)I"⟩
abbrev cX11_way : ByteArray := prog_1_method_30_code
def yX11_way : MethodName := ⟨RX11, "way", "(I)I"⟩
abbrev cX11_lostGoing : ByteArray := prog_1_method_31_code
def yX11_lostGoing : MethodName := ⟨RX11, "lostGoing", "(II)I"⟩
abbrev cX11_reading : ByteArray := prog_1_method_32_code
def yX11_reading : MethodName := ⟨RX11, "reading", "(II)I"⟩
abbrev cX11_rate : ByteArray := prog_1_method_33_code
def yX11_rate : MethodName := ⟨RX11, "rate", "(I)I"⟩
abbrev cX11_could : ByteArray := prog_1_method_34_code
def yX11_could : MethodName := ⟨RX11, "could", "(II)I"⟩
abbrev cX11_was : ByteArray := prog_1_method_35_code
def yX11_was : MethodName := ⟨RX11, "was", "(III)I"⟩
abbrev cX11_arrive : ByteArray := prog_1_method_36_code
def yX11_arrive : MethodName := ⟨RX11, "arrive", "(I)I"⟩
abbrev cX11_laid : ByteArray := prog_1_method_37_code
def yX11_laid : MethodName := ⟨RX11, "laid", "(III)I"⟩
abbrev cX11_flock : ByteArray := prog_1_method_38_code
def yX11_flock : MethodName := ⟨RX11, "flock", "(II)I"⟩
abbrev cX11_works : ByteArray := prog_1_method_39_code
def yX11_works : MethodName := ⟨RX11, "works", "(II)I"⟩
abbrev cX11_days : ByteArray := prog_1_method_40_code
def yX11_days : MethodName := ⟨RX11, "days", "(III)I"⟩
abbrev cX11_loss : ByteArray := prog_1_method_41_code
def yX11_loss : MethodName := ⟨RX11, "loss", "(I)I"⟩
abbrev cX11_driven : ByteArray := prog_1_method_42_code
def yX11_driven : MethodName := ⟨RX11, "driven", "(I)I"⟩
abbrev cX11_market : ByteArray := prog_1_method_43_code
def yX11_market : MethodName := ⟨RX11, "market", "(II)I"⟩
abbrev cX11_seller : ByteArray := prog_1_method_44_code
def yX11_seller : MethodName := ⟨RX11, "seller", "(II)I"⟩
abbrev cX11_week : ByteArray := prog_1_method_45_code
def yX11_week : MethodName := ⟨RX11, "week", "(II)I"⟩
abbrev cX11_turns : ByteArray := prog_1_method_46_code
def yX11_turns : MethodName := ⟨RX11, "turns", "(I)I"⟩
abbrev cX11_farm : ByteArray := prog_1_method_47_code
def yX11_farm : MethodName := ⟨RX11, "farm", "(II)I"⟩
abbrev cX11_owe : ByteArray := prog_1_method_48_code
def yX11_owe : MethodName := ⟨RX11, "owe", "(III)I"⟩
abbrev cX11_falls : ByteArray := prog_1_method_49_code
def yX11_falls : MethodName := ⟨RX11, "falls", "(II)I"⟩
abbrev cX11_safe : ByteArray := prog_1_method_50_code
def yX11_safe : MethodName := ⟨RX11, "safe", "(I)I"⟩
abbrev cX11_line : ByteArray := prog_1_method_51_code
def yX11_line : MethodName := ⟨RX11, "line", "(II)I"⟩
abbrev cX11_ring : ByteArray := prog_1_method_52_code
def yX11_ring : MethodName := ⟨RX11, "ring", "(II)I"⟩
abbrev cX11_earns : ByteArray := prog_1_method_53_code
def yX11_earns : MethodName := ⟨RX11, "earns", "(II)J"⟩
abbrev cX11_stable : ByteArray := prog_1_method_54_code
def yX11_stable : MethodName := ⟨RX11, "stable", "(I)I"⟩
abbrev cX11_choice : ByteArray := prog_1_method_55_code
def yX11_choice : MethodName := ⟨RX11, "choice", "(I)I"⟩
abbrev cX11_gives : ByteArray := prog_1_method_56_code
def yX11_gives : MethodName := ⟨RX11, "gives", "(III)I"⟩
abbrev cX11_plan : ByteArray := prog_1_method_57_code
def yX11_plan : MethodName := ⟨RX11, "plan", "(III)I"⟩
abbrev cX11_count : ByteArray := prog_1_method_58_code
def yX11_count : MethodName := ⟨RX11, "count", "(I)I"⟩
abbrev cX11_howMany : ByteArray := prog_1_method_59_code
def yX11_howMany : MethodName := ⟨RX11, "howMany", "(I)I"⟩
abbrev cX11_digest : ByteArray := prog_1_method_60_code
def yX11_digest : MethodName := ⟨RX11, "digest", "()J"⟩
abbrev cX11_mixLots : ByteArray := prog_1_method_61_code
def yX11_mixLots : MethodName := ⟨RX11, "mixLots", "(J)J"⟩
abbrev cX11_mixSums : ByteArray := prog_1_method_62_code
def yX11_mixSums : MethodName := ⟨RX11, "mixSums", "(J)J"⟩
def RX12 : String := "ColdHoldsModel"
def TX12 : u_T := fun k => match k with
  | 0 => ("ColdHoldsModel", "warmths", "[I", true)
  | 1 => ("ColdHoldsModel", "outers", "[I", true)
  | 2 => ("ColdHoldsModel", "pipes", "[Z", true)
  | 3 => ("ColdHoldsModel", "leak", "I", false)
  | 4 => ("ColdHoldsModel", "cold", "I", false)
  | 5 => ("ColdHoldsModel", "burn", "I", false)
  | 6 => ("ColdHoldsModel", "coal", "I", false)
  | 7 => ("ColdHoldsModel", "hourNow", "I", false)
  | 8 => ("ColdHoldsModel", "brokenFrom", "I", false)
  | 9 => ("ColdHoldsModel", "legs", "I", false)
  | 10 => ("ColdHoldsModel", "legHours", "[I", true)
  | 11 => ("ColdHoldsModel", "legSea", "[I", true)
  | 12 => ("ColdHoldsModel", "lots", "I", false)
  | 13 => ("ColdHoldsModel", "kinds", "[I", true)
  | 14 => ("ColdHoldsModel", "cellOf", "[I", true)
  | 15 => ("ColdHoldsModel", "rots", "[I", true)
  | 16 => ("ColdHoldsModel", "laidIn", "[I", true)
  | 17 => ("ColdHoldsModel", "cameIn", "[I", true)
  | 18 => ("ColdHoldsModel", "pageLength", "I", false)
  | 19 => ("ColdHoldsModel", "page", "[B", true)
  | 20 => ("ColdHoldsModel", "texts", "I", false)
  | 21 => ("ColdHoldsModel", "textOf", "[B", true)
  | 22 => ("ColdHoldsModel", "textSize", "[I", true)
  | 23 => ("ColdHoldsModel", "readings", "I", false)
  | 24 => ("ColdHoldsModel", "readHour", "[I", true)
  | 25 => ("ColdHoldsModel", "readNumber", "[I", true)
  | 26 => ("ColdHoldsModel", "rateNow", "I", false)
  | 27 => ("ColdHoldsModel", "arrivals", "I", false)
  | 28 => ("ColdHoldsModel", "soldOn", "[I", true)
  | 29 => ("ColdHoldsModel", "flocks", "I", false)
  | 30 => ("ColdHoldsModel", "sheepOf", "[I", true)
  | 31 => ("ColdHoldsModel", "fatOf", "[I", true)
  | 32 => ("ColdHoldsModel", "daysOf", "[I", true)
  | 33 => ("ColdHoldsModel", "takesOf", "[I", true)
  | 34 => ("ColdHoldsModel", "lossNow", "I", false)
  | 35 => ("ColdHoldsModel", "base", "I", false)
  | 36 => ("ColdHoldsModel", "slope", "I", false)
  | 37 => ("ColdHoldsModel", "lag", "I", false)
  | 38 => ("ColdHoldsModel", "wayTime", "I", false)
  | 39 => ("ColdHoldsModel", "sellers", "I", false)
  | 40 => ("ColdHoldsModel", "sellerLots", "[I", true)
  | 41 => ("ColdHoldsModel", "limits", "[I", true)
  | 42 => ("ColdHoldsModel", "farms", "I", false)
  | 43 => ("ColdHoldsModel", "gains", "[I", true)
  | 44 => ("ColdHoldsModel", "owns", "[I", true)
  | 45 => ("ColdHoldsModel", "owes", "[I", true)
  | 46 => ("ColdHoldsModel", "lines", "I", false)
  | 47 => ("ColdHoldsModel", "shipsOf", "[I", true)
  | 48 => ("ColdHoldsModel", "lineCost", "[I", true)
  | 49 => ("ColdHoldsModel", "floor", "I", false)
  | 50 => ("ColdHoldsModel", "rise", "I", false)
  | 51 => ("ColdHoldsModel", "quota", "I", false)
  | 52 => ("ColdHoldsModel", "cutNow", "I", false)
  | 53 => ("ColdHoldsModel", "choices", "I", false)
  | 54 => ("ColdHoldsModel", "choiceCost", "[I", true)
  | 55 => ("ColdHoldsModel", "givesOf", "[I", true)
  | 56 => ("ColdHoldsModel", "now", "[I", true)
  | 57 => ("ColdHoldsModel", "ahead", "[I", true)
  | 58 => ("ColdHoldsModel", "rotNow", "[I", true)
  | 59 => ("ColdHoldsModel", "coalNow", "I", false)
  | 60 => ("ColdHoldsModel", "hourThen", "I", false)
  | 61 => ("ColdHoldsModel", "brokenThen", "I", false)
  | 62 => ("ColdHoldsModel", "faultAt", "I", false)
  | 63 => ("ColdHoldsModel", "isWhole", "Z", false)
  | 64 => ("ColdHoldsModel", "sums", "[J", true)
  | 65 => ("ColdHoldsModel", "products", "[J", true)
  | 66 => ("ColdHoldsModel", "deep", "I", false)
  | 67 => ("ColdHoldsModel", "stackOf", "[I", true)
  | 68 => ("ColdHoldsModel", "highOf", "[I", true)
  | 69 => ("ColdHoldsModel", "dugBy", "[I", true)
  | 70 => ("ColdHoldsModel", "leastDug", "I", false)
  | 71 => ("ColdHoldsModel", "bestStack", "[I", true)
  | 72 => ("ColdHoldsModel", "bestWorks", "[I", true)
  | 73 => ("ColdHoldsModel", "taken", "[I", true)
  | 74 => ("ColdHoldsModel", "prices", "[I", true)
  | 75 => ("ColdHoldsModel", "shipped", "[I", true)
  | 76 => ("ColdHoldsModel", "rounds", "I", false)
  | _ => ("ColdHoldsModel", "h", "J", false)
def tyX12 : Nat → FieldType := fun k => match k with
  | 0 => .array .int
  | 1 => .array .int
  | 2 => .array .boolean
  | 3 => .int
  | 4 => .int
  | 5 => .int
  | 6 => .int
  | 7 => .int
  | 8 => .int
  | 9 => .int
  | 10 => .array .int
  | 11 => .array .int
  | 12 => .int
  | 13 => .array .int
  | 14 => .array .int
  | 15 => .array .int
  | 16 => .array .int
  | 17 => .array .int
  | 18 => .int
  | 19 => .array .byte
  | 20 => .int
  | 21 => .array .byte
  | 22 => .array .int
  | 23 => .int
  | 24 => .array .int
  | 25 => .array .int
  | 26 => .int
  | 27 => .int
  | 28 => .array .int
  | 29 => .int
  | 30 => .array .int
  | 31 => .array .int
  | 32 => .array .int
  | 33 => .array .int
  | 34 => .int
  | 35 => .int
  | 36 => .int
  | 37 => .int
  | 38 => .int
  | 39 => .int
  | 40 => .array .int
  | 41 => .array .int
  | 42 => .int
  | 43 => .array .int
  | 44 => .array .int
  | 45 => .array .int
  | 46 => .int
  | 47 => .array .int
  | 48 => .array .int
  | 49 => .int
  | 50 => .int
  | 51 => .int
  | 52 => .int
  | 53 => .int
  | 54 => .array .int
  | 55 => .array .int
  | 56 => .array .int
  | 57 => .array .int
  | 58 => .array .int
  | 59 => .int
  | 60 => .int
  | 61 => .int
  | 62 => .int
  | 63 => .boolean
  | 64 => .array .long
  | 65 => .array .long
  | 66 => .int
  | 67 => .array .int
  | 68 => .array .int
  | 69 => .array .int
  | 70 => .int
  | 71 => .array .int
  | 72 => .array .int
  | 73 => .array .int
  | 74 => .array .int
  | 75 => .array .int
  | 76 => .int
  | _ => .long
abbrev wsX120 : List Cond := u_ws RX12 TX12 78
theorem nmX12 : ∀ a, a < 78 → ∀ b, b < 78 → a ≠ b → (TX12 a).2.1 ≠ (TX12 b).2.1 := by decide +kernel
theorem tyX12_ok : ∀ k, k < 78 → parseFieldDescriptor (TX12 k).2.2.1 = some (tyX12 k) := by decide +kernel
abbrev cX12_init : ByteArray := prog_14_method_1_code
def yX12_init : MethodName := ⟨RX12, "<init>", "()V"⟩
abbrev cX12_in : ByteArray := prog_14_method_3_code
def yX12_in : MethodName := ⟨RX12, "in", "(III)Z"⟩
abbrev cX12_isCell : ByteArray := prog_14_method_4_code
def yX12_isCell : MethodName := ⟨RX12, "isCell", "(I)Z"⟩
abbrev cX12_floorBy : ByteArray := prog_14_method_5_code
def yX12_floorBy : MethodName := ⟨RX12, "floorBy", "(II)I"⟩
abbrev cX12_leg : ByteArray := prog_14_method_6_code
def yX12_leg : MethodName := ⟨RX12, "leg", "(II)I"⟩
abbrev cX12_warm : ByteArray := prog_14_method_7_code
def yX12_warm : MethodName := ⟨RX12, "warm", "(II)I"⟩
abbrev cX12_warmth : ByteArray := prog_14_method_8_code
def yX12_warmth : MethodName := ⟨RX12, "warmth", "(I)I"⟩
abbrev cX12_outer : ByteArray := prog_14_method_9_code
def yX12_outer : MethodName := ⟨RX12, "outer", "(II)I"⟩
abbrev cX12_pipe : ByteArray := prog_14_method_10_code
def yX12_pipe : MethodName := ⟨RX12, "pipe", "(IZ)I"⟩
abbrev cX12_engine : ByteArray := prog_14_method_11_code
def yX12_engine : MethodName := ⟨RX12, "engine", "(II)I"⟩
abbrev cX12_breaks : ByteArray := prog_14_method_12_code
def yX12_breaks : MethodName := ⟨RX12, "breaks", "(I)I"⟩
abbrev cX12_seaOf : ByteArray := prog_14_method_13_code
def yX12_seaOf : MethodName := ⟨RX12, "seaOf", "(I)I"⟩
abbrev cX12_sea : ByteArray := prog_14_method_14_code
def yX12_sea : MethodName := ⟨RX12, "sea", "(I)I"⟩
abbrev cX12_startAsNow : ByteArray := prog_14_method_15_code
def yX12_startAsNow : MethodName := ⟨RX12, "startAsNow", "()V"⟩
abbrev cX12_besides : ByteArray := prog_14_method_16_code
def yX12_besides : MethodName := ⟨RX12, "besides", "(I)I"⟩
abbrev cX12_anHour : ByteArray := prog_14_method_17_code
def yX12_anHour : MethodName := ⟨RX12, "anHour", "(I)Z"⟩
abbrev cX12_spoils : ByteArray := prog_14_method_18_code
def yX12_spoils : MethodName := ⟨RX12, "spoils", "(II)I"⟩
abbrev cX12_stateOf : ByteArray := prog_14_method_19_code
def yX12_stateOf : MethodName := ⟨RX12, "stateOf", "(I)I"⟩
abbrev cX12_hours : ByteArray := prog_14_method_20_code
def yX12_hours : MethodName := ⟨RX12, "hours", "(I)I"⟩
abbrev cX12_above : ByteArray := prog_14_method_21_code
def yX12_above : MethodName := ⟨RX12, "above", "(I)I"⟩
abbrev cX12_first : ByteArray := prog_14_method_22_code
def yX12_first : MethodName := ⟨RX12, "first", "(II)I"⟩
abbrev cX12_isLot : ByteArray := prog_14_method_23_code
def yX12_isLot : MethodName := ⟨RX12, "isLot", "(I)Z"⟩
abbrev cX12_lot : ByteArray := prog_14_method_24_code
def yX12_lot : MethodName := ⟨RX12, "lot", "(II)I"⟩
abbrev cX12_lay : ByteArray := prog_14_method_25_code
def yX12_lay : MethodName := ⟨RX12, "lay", "(II)I"⟩
abbrev cX12_worthOf : ByteArray := prog_14_method_26_code
def yX12_worthOf : MethodName := ⟨RX12, "worthOf", "(I)I"⟩
abbrev cX12_aboutOf : ByteArray := prog_14_method_27_code
def yX12_aboutOf : MethodName := ⟨RX12, "aboutOf", "(II)I"⟩
abbrev cX12_about : ByteArray := prog_14_method_28_code
def yX12_about : MethodName := ⟨RX12, "about", "(II)I"⟩
abbrev cX12_as : ByteArray := prog_14_method_29_code
def yX12_as : MethodName := ⟨RX12, "as", "(II)I"⟩
abbrev cX12_letters : ByteArray := prog_14_method_30_code
def yX12_letters : MethodName := ⟨RX12, "letters", "(J)I"⟩
abbrev cX12_blank : ByteArray := prog_14_method_31_code
def yX12_blank : MethodName := ⟨RX12, "blank", "()I"⟩
abbrev cX12_isMark : ByteArray := prog_14_method_32_code
def yX12_isMark : MethodName := ⟨RX12, "isMark", "(I)Z"⟩
abbrev cX12_readText : ByteArray := prog_14_method_33_code
def yX12_readText : MethodName := ⟨RX12, "readText", "()V"⟩
abbrev cX12_fault : ByteArray := prog_14_method_34_code
def yX12_fault : MethodName := ⟨RX12, "fault", "()I"⟩
abbrev cX12_text : ByteArray := prog_14_method_35_code
def yX12_text : MethodName := ⟨RX12, "text", "()I"⟩
abbrev cX12_openSum : ByteArray := prog_14_method_36_code
def yX12_openSum : MethodName := ⟨RX12, "openSum", "()V"⟩
abbrev cX12_closeSum : ByteArray := prog_14_method_37_code
def yX12_closeSum : MethodName := ⟨RX12, "closeSum", "()J"⟩
abbrev cX12_sumFrom : ByteArray := prog_14_method_38_code
def yX12_sumFrom : MethodName := ⟨RX12, "sumFrom", "(III)J"⟩
abbrev cX12_markOf : ByteArray := prog_14_method_39_code
def yX12_markOf : MethodName := ⟨RX12, "markOf", "(I)I"⟩
abbrev cX12_sumOf : ByteArray := prog_14_method_40_code
def yX12_sumOf : MethodName := ⟨RX12, "sumOf", "(III)J"⟩
abbrev cX12_says : ByteArray := prog_14_method_41_code
def yX12_says : MethodName := ⟨RX12, "says", "(II)I"⟩
abbrev cX12_sum : ByteArray := prog_14_method_42_code
def yX12_sum : MethodName := ⟨RX12, "sum", "(III)J"⟩
abbrev cX12_lostBy : ByteArray := prog_14_method_43_code
def yX12_lostBy : MethodName := ⟨RX12, "lostBy", "(II)I"⟩
abbrev cX12_lost : ByteArray := prog_14_method_44_code
def yX12_lost : MethodName := ⟨RX12, "lost", "(II)I"⟩
abbrev cX12_way : ByteArray := prog_14_method_45_code
def yX12_way : MethodName := ⟨RX12, "way", "(I)I"⟩
abbrev cX12_reading : ByteArray := prog_14_method_46_code
def yX12_reading : MethodName := ⟨RX12, "reading", "(II)I"⟩
abbrev cX12_rate : ByteArray := prog_14_method_47_code
def yX12_rate : MethodName := ⟨RX12, "rate", "(I)I"⟩
abbrev cX12_reach : ByteArray := prog_14_method_48_code
def yX12_reach : MethodName := ⟨RX12, "reach", "(II)I"⟩
abbrev cX12_couldBe : ByteArray := prog_14_method_49_code
def yX12_couldBe : MethodName := ⟨RX12, "couldBe", "(II)I"⟩
abbrev cX12_goTogether : ByteArray := prog_14_method_50_code
def yX12_goTogether : MethodName := ⟨RX12, "goTogether", "()Z"⟩
abbrev cX12_could : ByteArray := prog_14_method_51_code
def yX12_could : MethodName := ⟨RX12, "could", "(II)I"⟩
abbrev cX12_was : ByteArray := prog_14_method_52_code
def yX12_was : MethodName := ⟨RX12, "was", "(III)I"⟩
abbrev cX12_arrive : ByteArray := prog_14_method_53_code
def yX12_arrive : MethodName := ⟨RX12, "arrive", "(I)I"⟩
abbrev cX12_ones : ByteArray := prog_14_method_54_code
def yX12_ones : MethodName := ⟨RX12, "ones", "(I)I"⟩
abbrev cX12_dugWith : ByteArray := prog_14_method_55_code
def yX12_dugWith : MethodName := ⟨RX12, "dugWith", "(II)I"⟩
abbrev cX12_seekLaid : ByteArray := prog_14_method_56_code
def yX12_seekLaid : MethodName := ⟨RX12, "seekLaid", "(II)V"⟩
abbrev cX12_laid : ByteArray := prog_14_method_57_code
def yX12_laid : MethodName := ⟨RX12, "laid", "(III)I"⟩
abbrev cX12_isFlock : ByteArray := prog_14_method_58_code
def yX12_isFlock : MethodName := ⟨RX12, "isFlock", "(I)Z"⟩
abbrev cX12_flock : ByteArray := prog_14_method_59_code
def yX12_flock : MethodName := ⟨RX12, "flock", "(II)I"⟩
abbrev cX12_works : ByteArray := prog_14_method_60_code
def yX12_works : MethodName := ⟨RX12, "works", "(II)I"⟩
abbrev cX12_days : ByteArray := prog_14_method_61_code
def yX12_days : MethodName := ⟨RX12, "days", "(III)I"⟩
abbrev cX12_loss : ByteArray := prog_14_method_62_code
def yX12_loss : MethodName := ⟨RX12, "loss", "(I)I"⟩
abbrev cX12_comesOf : ByteArray := prog_14_method_63_code
def yX12_comesOf : MethodName := ⟨RX12, "comesOf", "(II)I"⟩
abbrev cX12_seekDriven : ByteArray := prog_14_method_64_code
def yX12_seekDriven : MethodName := ⟨RX12, "seekDriven", "()I"⟩
abbrev cX12_driven : ByteArray := prog_14_method_65_code
def yX12_driven : MethodName := ⟨RX12, "driven", "(I)I"⟩
abbrev cX12_market : ByteArray := prog_14_method_66_code
def yX12_market : MethodName := ⟨RX12, "market", "(II)I"⟩
abbrev cX12_seller : ByteArray := prog_14_method_67_code
def yX12_seller : MethodName := ⟨RX12, "seller", "(II)I"⟩
abbrev cX12_priceAt : ByteArray := prog_14_method_68_code
def yX12_priceAt : MethodName := ⟨RX12, "priceAt", "(I)I"⟩
abbrev cX12_shippedAt : ByteArray := prog_14_method_69_code
def yX12_shippedAt : MethodName := ⟨RX12, "shippedAt", "(I)I"⟩
abbrev cX12_goWeeks : ByteArray := prog_14_method_70_code
def yX12_goWeeks : MethodName := ⟨RX12, "goWeeks", "()V"⟩
abbrev cX12_week : ByteArray := prog_14_method_71_code
def yX12_week : MethodName := ⟨RX12, "week", "(II)I"⟩
abbrev cX12_isAgain : ByteArray := prog_14_method_72_code
def yX12_isAgain : MethodName := ⟨RX12, "isAgain", "(II)Z"⟩
abbrev cX12_turns : ByteArray := prog_14_method_73_code
def yX12_turns : MethodName := ⟨RX12, "turns", "(I)I"⟩
abbrev cX12_farm : ByteArray := prog_14_method_74_code
def yX12_farm : MethodName := ⟨RX12, "farm", "(II)I"⟩
abbrev cX12_owe : ByteArray := prog_14_method_75_code
def yX12_owe : MethodName := ⟨RX12, "owe", "(III)I"⟩
abbrev cX12_fallenAt : ByteArray := prog_14_method_76_code
def yX12_fallenAt : MethodName := ⟨RX12, "fallenAt", "(I)I"⟩
abbrev cX12_falls : ByteArray := prog_14_method_77_code
def yX12_falls : MethodName := ⟨RX12, "falls", "(II)I"⟩
abbrev cX12_safe : ByteArray := prog_14_method_78_code
def yX12_safe : MethodName := ⟨RX12, "safe", "(I)I"⟩
abbrev cX12_line : ByteArray := prog_14_method_79_code
def yX12_line : MethodName := ⟨RX12, "line", "(II)I"⟩
abbrev cX12_ring : ByteArray := prog_14_method_80_code
def yX12_ring : MethodName := ⟨RX12, "ring", "(II)I"⟩
abbrev cX12_shipsIn : ByteArray := prog_14_method_81_code
def yX12_shipsIn : MethodName := ⟨RX12, "shipsIn", "(I)I"⟩
abbrev cX12_earnsOf : ByteArray := prog_14_method_82_code
def yX12_earnsOf : MethodName := ⟨RX12, "earnsOf", "(II)J"⟩
abbrev cX12_earns : ByteArray := prog_14_method_83_code
def yX12_earns : MethodName := ⟨RX12, "earns", "(II)J"⟩
abbrev cX12_isStable : ByteArray := prog_14_method_84_code
def yX12_isStable : MethodName := ⟨RX12, "isStable", "(I)Z"⟩
abbrev cX12_stable : ByteArray := prog_14_method_85_code
def yX12_stable : MethodName := ⟨RX12, "stable", "(I)I"⟩
abbrev cX12_choice : ByteArray := prog_14_method_86_code
def yX12_choice : MethodName := ⟨RX12, "choice", "(I)I"⟩
abbrev cX12_gives : ByteArray := prog_14_method_87_code
def yX12_gives : MethodName := ⟨RX12, "gives", "(III)I"⟩
abbrev cX12_worstOf : ByteArray := prog_14_method_88_code
def yX12_worstOf : MethodName := ⟨RX12, "worstOf", "(II)I"⟩
abbrev cX12_costOf : ByteArray := prog_14_method_89_code
def yX12_costOf : MethodName := ⟨RX12, "costOf", "(I)I"⟩
abbrev cX12_plan : ByteArray := prog_14_method_90_code
def yX12_plan : MethodName := ⟨RX12, "plan", "(III)I"⟩
abbrev cX12_countOf : ByteArray := prog_14_method_91_code
def yX12_countOf : MethodName := ⟨RX12, "countOf", "(I)I"⟩
abbrev cX12_count : ByteArray := prog_14_method_92_code
def yX12_count : MethodName := ⟨RX12, "count", "(I)I"⟩
abbrev cX12_mix : ByteArray := prog_14_method_93_code
def yX12_mix : MethodName := ⟨RX12, "mix", "(J)V"⟩
abbrev cX12_mixHold : ByteArray := prog_14_method_94_code
def yX12_mixHold : MethodName := ⟨RX12, "mixHold", "()V"⟩
abbrev cX12_mixLand : ByteArray := prog_14_method_95_code
def yX12_mixLand : MethodName := ⟨RX12, "mixLand", "()V"⟩
abbrev cX12_digest : ByteArray := prog_14_method_96_code
def yX12_digest : MethodName := ⟨RX12, "digest", "()J"⟩
def RJ6 : String := "java/lang/Integer"
abbrev cJ6_bitCount_0f7a4 : ByteArray := prog_15_method_49_code
def yJ6_bitCount_0f7a4 : MethodName := ⟨RJ6, "bitCount", "(I)I"⟩
def RJ9 : String := "java/lang/Math"
abbrev cJ9_floorDiv_7cf53 : ByteArray := prog_16_method_47_code
def yJ9_floorDiv_7cf53 : MethodName := ⟨RJ9, "floorDiv", "(II)I"⟩
abbrev cJ9_abs_0f7a4 : ByteArray := prog_16_method_59_code
def yJ9_abs_0f7a4 : MethodName := ⟨RJ9, "abs", "(I)I"⟩
abbrev cJ9_max_7cf53 : ByteArray := prog_16_method_65_code
def yJ9_max_7cf53 : MethodName := ⟨RJ9, "max", "(II)I"⟩
abbrev cJ9_min_7cf53 : ByteArray := prog_16_method_69_code
def yJ9_min_7cf53 : MethodName := ⟨RJ9, "min", "(II)I"⟩
def RJ10 : String := "java/lang/System"
def RJ7 : String := "java/util/Arrays"
abbrev cJ7_fill_53178 : ByteArray := prog_18_method_103_code
def yJ7_fill_53178 : MethodName := ⟨RJ7, "fill", "([II)V"⟩
def RL : String := "ColdHoldsLaw"
abbrev cL_law : ByteArray := code
def yL_law : MethodName := ⟨RL, "law", "([I)Z"⟩
abbrev vwCl : List vw_C := [(RX0, TX0, 4), (RX1, TX1, 3), (RX2, TX2, 11), (RX3, TX3, 5), (RX4, TX4, 8), (RX5, TX5, 5), (RX6, TX6, 6), (RX7, TX7, 4), (RX8, TX8, 4), (RX9, TX9, 8), (RX10, TX10, 15), (RX11, TX11, 12), (RX12, TX12, 78)]
/-- words of one list among another's, by their places -/
theorem mm_in {big : List Cond} (ws : List Cond) (ps : List Nat) (hp : ws = ps.filterMap (fun i => big[i]?)) : ∀ w ∈ ws, w ∈ big := by
  intro w hw
  rw [hp] at hw
  obtain ⟨i, -, hi⟩ := List.mem_filterMap.mp hw
  exact List.mem_of_getElem? hi
theorem inX0 : ∀ w ∈ wsX00, w ∈ lw_tbl := mm_in wsX00 [147, 149, 151, 153] (by decide +kernel)
theorem inX1 : ∀ w ∈ wsX10, w ∈ lw_tbl := mm_in wsX10 [433, 435, 437] (by decide +kernel)
theorem inX2 : ∀ w ∈ wsX20, w ∈ lw_tbl := mm_in wsX20 [324, 326, 328, 330, 332, 334, 336, 338, 340, 342, 344] (by decide +kernel)
theorem inX3 : ∀ w ∈ wsX30, w ∈ lw_tbl := mm_in wsX30 [389, 391, 393, 395, 397] (by decide +kernel)
theorem inX4 : ∀ w ∈ wsX40, w ∈ lw_tbl := mm_in wsX40 [113, 115, 117, 119, 121, 123, 125, 127] (by decide +kernel)
theorem inX5 : ∀ w ∈ wsX50, w ∈ lw_tbl := mm_in wsX50 [173, 175, 177, 179, 181] (by decide +kernel)
theorem inX6 : ∀ w ∈ wsX60, w ∈ lw_tbl := mm_in wsX60 [361, 363, 365, 367, 369, 371] (by decide +kernel)
theorem inX7 : ∀ w ∈ wsX70, w ∈ lw_tbl := mm_in wsX70 [257, 259, 261, 263] (by decide +kernel)
theorem inX8 : ∀ w ∈ wsX80, w ∈ lw_tbl := mm_in wsX80 [412, 414, 416, 418] (by decide +kernel)
theorem inX9 : ∀ w ∈ wsX90, w ∈ lw_tbl := mm_in wsX90 [283, 285, 287, 289, 291, 293, 295, 297] (by decide +kernel)
theorem inX10 : ∀ w ∈ wsX100, w ∈ lw_tbl := mm_in wsX100 [213, 215, 217, 219, 221, 223, 225, 227, 229, 231, 233, 235, 237, 239, 241] (by decide +kernel)
theorem inX11 : ∀ w ∈ wsX110, w ∈ lw_tbl := mm_in wsX110 [452, 454, 456, 458, 460, 462, 464, 466, 468, 470, 472, 474] (by decide +kernel)
theorem inX12 : ∀ w ∈ wsX120, w ∈ lw_tbl := mm_in wsX120 [1224, 1226, 1228, 1230, 1232, 1234, 1236, 1238, 1240, 1242, 1244, 1246, 1248, 1250, 1252, 1254, 1256, 1258, 1260, 1262, 1264, 1266, 1268, 1270, 1272, 1274, 1276, 1278, 1280, 1282, 1284, 1286, 1288, 1290, 1292, 1294, 1296, 1298, 1300, 1302, 1304, 1306, 1308, 1310, 1312, 1314, 1316, 1318, 1320, 1322, 1324, 1326, 1328, 1330, 1332, 1334, 1336, 1338, 1340, 1342, 1344, 1346, 1348, 1350, 1352, 1354, 1356, 1358, 1360, 1362, 1364, 1366, 1368, 1370, 1372, 1374, 1376, 1378] (by decide +kernel)
