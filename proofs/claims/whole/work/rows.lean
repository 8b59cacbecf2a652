section
-- ===== PART A: goes FIRST, ahead of the names: the tables' words, and 'selects' of the private methods out of them =====
/-- a private method of a class that the tables say can be made, by its rows of tables_1 -/
def lw_okq (q : MethodName × Nat) : Prop := (q.1.cls ≠ "java/lang/invoke/MethodHandle" ∧ q.1.cls ≠ "java/lang/invoke/VarHandle") ∧ Cond.instantiable q.1.cls q.2 ∈ tables_1 ∧ Cond.privateMethod q.1 ∈ tables_1 ∧ Cond.instanceMethod q.1 ∈ tables_1
theorem lw_p0 : lw_okq (⟨"ColdHolds$Texts", "after", "(II)I"⟩, 15) := ⟨⟨by decide +kernel, by decide +kernel⟩, List.mem_of_getElem? (i := 122) (by decide +kernel), List.mem_of_getElem? (i := 592) (by decide +kernel), List.mem_of_getElem? (i := 593) (by decide +kernel)⟩
theorem lw_p1 : lw_okq (⟨"ColdHolds$Texts", "intoFactor", "(I)I"⟩, 15) := ⟨⟨by decide +kernel, by decide +kernel⟩, List.mem_of_getElem? (i := 122) (by decide +kernel), List.mem_of_getElem? (i := 599) (by decide +kernel), List.mem_of_getElem? (i := 600) (by decide +kernel)⟩
theorem lw_p2 : lw_okq (⟨"ColdHolds$Texts", "behindFactor", "(II)I"⟩, 15) := ⟨⟨by decide +kernel, by decide +kernel⟩, List.mem_of_getElem? (i := 122) (by decide +kernel), List.mem_of_getElem? (i := 607) (by decide +kernel), List.mem_of_getElem? (i := 608) (by decide +kernel)⟩
theorem lw_p3 : lw_okq (⟨"ColdHolds", "sumOf", "(III)J"⟩, 12) := ⟨⟨by decide +kernel, by decide +kernel⟩, List.mem_of_getElem? (i := 19) (by decide +kernel), List.mem_of_getElem? (i := 633) (by decide +kernel), List.mem_of_getElem? (i := 634) (by decide +kernel)⟩
theorem lw_p4 : lw_okq (⟨"ColdHolds$Texts", "value", "([III)J"⟩, 15) := ⟨⟨by decide +kernel, by decide +kernel⟩, List.mem_of_getElem? (i := 122) (by decide +kernel), List.mem_of_getElem? (i := 641) (by decide +kernel), List.mem_of_getElem? (i := 642) (by decide +kernel)⟩
theorem lw_p5 : lw_okq (⟨"ColdHolds$Texts", "begin", "(I)V"⟩, 15) := ⟨⟨by decide +kernel, by decide +kernel⟩, List.mem_of_getElem? (i := 122) (by decide +kernel), List.mem_of_getElem? (i := 645) (by decide +kernel), List.mem_of_getElem? (i := 646) (by decide +kernel)⟩
theorem lw_p6 : lw_okq (⟨"ColdHolds$Texts", "named", "(I)I"⟩, 15) := ⟨⟨by decide +kernel, by decide +kernel⟩, List.mem_of_getElem? (i := 122) (by decide +kernel), List.mem_of_getElem? (i := 650) (by decide +kernel), List.mem_of_getElem? (i := 651) (by decide +kernel)⟩
theorem lw_p7 : lw_okq (⟨"ColdHolds", "lostGoing", "(II)I"⟩, 12) := ⟨⟨by decide +kernel, by decide +kernel⟩, List.mem_of_getElem? (i := 19) (by decide +kernel), List.mem_of_getElem? (i := 666) (by decide +kernel), List.mem_of_getElem? (i := 667) (by decide +kernel)⟩
theorem lw_p8 : lw_okq (⟨"ColdHolds$Readings", "isRead", "(I)Z"⟩, 4) := ⟨⟨by decide +kernel, by decide +kernel⟩, List.mem_of_getElem? (i := 183) (by decide +kernel), List.mem_of_getElem? (i := 708) (by decide +kernel), List.mem_of_getElem? (i := 709) (by decide +kernel)⟩
theorem lw_p9 : lw_okq (⟨"ColdHolds$Stacks", "dugFrom", "(I)I"⟩, 8) := ⟨⟨by decide +kernel, by decide +kernel⟩, List.mem_of_getElem? (i := 204) (by decide +kernel), List.mem_of_getElem? (i := 760) (by decide +kernel), List.mem_of_getElem? (i := 761) (by decide +kernel)⟩
theorem lw_p10 : lw_okq (⟨"ColdHolds$Drive", "mostOf", "(I)I"⟩, 11) := ⟨⟨by decide +kernel, by decide +kernel⟩, List.mem_of_getElem? (i := 238) (by decide +kernel), List.mem_of_getElem? (i := 797) (by decide +kernel), List.mem_of_getElem? (i := 798) (by decide +kernel)⟩
theorem lw_p11 : lw_okq (⟨"ColdHolds$Drive", "comesOf", "(II)I"⟩, 11) := ⟨⟨by decide +kernel, by decide +kernel⟩, List.mem_of_getElem? (i := 238) (by decide +kernel), List.mem_of_getElem? (i := 801) (by decide +kernel), List.mem_of_getElem? (i := 802) (by decide +kernel)⟩
theorem lw_p12 : lw_okq (⟨"ColdHolds$Market", "shippedIn", "(I)I"⟩, 6) := ⟨⟨by decide +kernel, by decide +kernel⟩, List.mem_of_getElem? (i := 285) (by decide +kernel), List.mem_of_getElem? (i := 837) (by decide +kernel), List.mem_of_getElem? (i := 838) (by decide +kernel)⟩
theorem lw_p13 : lw_okq (⟨"ColdHolds$Market", "priceIn", "(I)I"⟩, 6) := ⟨⟨by decide +kernel, by decide +kernel⟩, List.mem_of_getElem? (i := 285) (by decide +kernel), List.mem_of_getElem? (i := 842) (by decide +kernel), List.mem_of_getElem? (i := 843) (by decide +kernel)⟩
theorem lw_p14 : lw_okq (⟨"ColdHolds$Market", "sellersAt", "(I)I"⟩, 6) := ⟨⟨by decide +kernel, by decide +kernel⟩, List.mem_of_getElem? (i := 285) (by decide +kernel), List.mem_of_getElem? (i := 846) (by decide +kernel), List.mem_of_getElem? (i := 847) (by decide +kernel)⟩
theorem lw_p15 : lw_okq (⟨"ColdHolds$Market", "loadOf", "(I)I"⟩, 6) := ⟨⟨by decide +kernel, by decide +kernel⟩, List.mem_of_getElem? (i := 285) (by decide +kernel), List.mem_of_getElem? (i := 850) (by decide +kernel), List.mem_of_getElem? (i := 851) (by decide +kernel)⟩
def lw_privs_1 : List (MethodName × Nat) := [(⟨"ColdHolds$Texts", "after", "(II)I"⟩, 15), (⟨"ColdHolds$Texts", "intoFactor", "(I)I"⟩, 15), (⟨"ColdHolds$Texts", "behindFactor", "(II)I"⟩, 15), (⟨"ColdHolds", "sumOf", "(III)J"⟩, 12), (⟨"ColdHolds$Texts", "value", "([III)J"⟩, 15), (⟨"ColdHolds$Texts", "begin", "(I)V"⟩, 15), (⟨"ColdHolds$Texts", "named", "(I)I"⟩, 15), (⟨"ColdHolds", "lostGoing", "(II)I"⟩, 12), (⟨"ColdHolds$Readings", "isRead", "(I)Z"⟩, 4), (⟨"ColdHolds$Stacks", "dugFrom", "(I)I"⟩, 8), (⟨"ColdHolds$Drive", "mostOf", "(I)I"⟩, 11), (⟨"ColdHolds$Drive", "comesOf", "(II)I"⟩, 11), (⟨"ColdHolds$Market", "shippedIn", "(I)I"⟩, 6), (⟨"ColdHolds$Market", "priceIn", "(I)I"⟩, 6), (⟨"ColdHolds$Market", "sellersAt", "(I)I"⟩, 6), (⟨"ColdHolds$Market", "loadOf", "(I)I"⟩, 6)]
theorem lw_r1 : ∀ q ∈ lw_privs_1, lw_okq q := List.forall_mem_cons.mpr ⟨lw_p0, List.forall_mem_cons.mpr ⟨lw_p1, List.forall_mem_cons.mpr ⟨lw_p2, List.forall_mem_cons.mpr ⟨lw_p3, List.forall_mem_cons.mpr ⟨lw_p4, List.forall_mem_cons.mpr ⟨lw_p5, List.forall_mem_cons.mpr ⟨lw_p6, List.forall_mem_cons.mpr ⟨lw_p7, List.forall_mem_cons.mpr ⟨lw_p8, List.forall_mem_cons.mpr ⟨lw_p9, List.forall_mem_cons.mpr ⟨lw_p10, List.forall_mem_cons.mpr ⟨lw_p11, List.forall_mem_cons.mpr ⟨lw_p12, List.forall_mem_cons.mpr ⟨lw_p13, List.forall_mem_cons.mpr ⟨lw_p14, List.forall_mem_cons.mpr ⟨lw_p15, fun _ h => absurd h List.not_mem_nil⟩⟩⟩⟩⟩⟩⟩⟩⟩⟩⟩⟩⟩⟩⟩⟩
theorem lw_p16 : lw_okq (⟨"ColdHolds$Market", "alike", "(II)Z"⟩, 6) := ⟨⟨by decide +kernel, by decide +kernel⟩, List.mem_of_getElem? (i := 285) (by decide +kernel), List.mem_of_getElem? (i := 867) (by decide +kernel), List.mem_of_getElem? (i := 868) (by decide +kernel)⟩
theorem lw_p17 : lw_okq (⟨"ColdHolds$Farms", "fallenAfter", "(II)I"⟩, 5) := ⟨⟨by decide +kernel, by decide +kernel⟩, List.mem_of_getElem? (i := 312) (by decide +kernel), List.mem_of_getElem? (i := 896) (by decide +kernel), List.mem_of_getElem? (i := 897) (by decide +kernel)⟩
theorem lw_p18 : lw_okq (⟨"ColdHolds$Farms", "left", "(III)I"⟩, 5) := ⟨⟨by decide +kernel, by decide +kernel⟩, List.mem_of_getElem? (i := 312) (by decide +kernel), List.mem_of_getElem? (i := 900) (by decide +kernel), List.mem_of_getElem? (i := 901) (by decide +kernel)⟩
theorem lw_p19 : lw_okq (⟨"ColdHolds$Ring", "shipsOf", "(I)I"⟩, 4) := ⟨⟨by decide +kernel, by decide +kernel⟩, List.mem_of_getElem? (i := 338) (by decide +kernel), List.mem_of_getElem? (i := 941) (by decide +kernel), List.mem_of_getElem? (i := 942) (by decide +kernel)⟩
theorem lw_p20 : lw_okq (⟨"ColdHolds$Ring", "holds", "(I)Z"⟩, 4) := ⟨⟨by decide +kernel, by decide +kernel⟩, List.mem_of_getElem? (i := 338) (by decide +kernel), List.mem_of_getElem? (i := 958) (by decide +kernel), List.mem_of_getElem? (i := 959) (by decide +kernel)⟩
theorem lw_p21 : lw_okq (⟨"ColdHolds$Choices", "isBetter", "(III)Z"⟩, 3) := ⟨⟨by decide +kernel, by decide +kernel⟩, List.mem_of_getElem? (i := 359) (by decide +kernel), List.mem_of_getElem? (i := 992) (by decide +kernel), List.mem_of_getElem? (i := 993) (by decide +kernel)⟩
theorem lw_p22 : lw_okq (⟨"ColdHolds$Choices", "givenIn", "(II)I"⟩, 3) := ⟨⟨by decide +kernel, by decide +kernel⟩, List.mem_of_getElem? (i := 359) (by decide +kernel), List.mem_of_getElem? (i := 1000) (by decide +kernel), List.mem_of_getElem? (i := 1001) (by decide +kernel)⟩
theorem lw_p23 : lw_okq (⟨"ColdHolds", "howMany", "(I)I"⟩, 12) := ⟨⟨by decide +kernel, by decide +kernel⟩, List.mem_of_getElem? (i := 19) (by decide +kernel), List.mem_of_getElem? (i := 1011) (by decide +kernel), List.mem_of_getElem? (i := 1012) (by decide +kernel)⟩
theorem lw_p24 : lw_okq (⟨"ColdHolds", "mixLots", "(J)J"⟩, 12) := ⟨⟨by decide +kernel, by decide +kernel⟩, List.mem_of_getElem? (i := 19) (by decide +kernel), List.mem_of_getElem? (i := 1033) (by decide +kernel), List.mem_of_getElem? (i := 1034) (by decide +kernel)⟩
theorem lw_p25 : lw_okq (⟨"ColdHolds", "mixSums", "(J)J"⟩, 12) := ⟨⟨by decide +kernel, by decide +kernel⟩, List.mem_of_getElem? (i := 19) (by decide +kernel), List.mem_of_getElem? (i := 1037) (by decide +kernel), List.mem_of_getElem? (i := 1038) (by decide +kernel)⟩
theorem lw_p26 : lw_okq (⟨"ColdHoldsModel", "seaOf", "(I)I"⟩, 78) := ⟨⟨by decide +kernel, by decide +kernel⟩, List.mem_of_getElem? (i := 1077) (by decide +kernel), List.mem_of_getElem? (i := 1359) (by decide +kernel), List.mem_of_getElem? (i := 1360) (by decide +kernel)⟩
theorem lw_p27 : lw_okq (⟨"ColdHoldsModel", "startAsNow", "()V"⟩, 78) := ⟨⟨by decide +kernel, by decide +kernel⟩, List.mem_of_getElem? (i := 1077) (by decide +kernel), List.mem_of_getElem? (i := 1367) (by decide +kernel), List.mem_of_getElem? (i := 1368) (by decide +kernel)⟩
theorem lw_p28 : lw_okq (⟨"ColdHoldsModel", "anHour", "(I)Z"⟩, 78) := ⟨⟨by decide +kernel, by decide +kernel⟩, List.mem_of_getElem? (i := 1077) (by decide +kernel), List.mem_of_getElem? (i := 1371) (by decide +kernel), List.mem_of_getElem? (i := 1372) (by decide +kernel)⟩
theorem lw_p29 : lw_okq (⟨"ColdHoldsModel", "besides", "(I)I"⟩, 78) := ⟨⟨by decide +kernel, by decide +kernel⟩, List.mem_of_getElem? (i := 1077) (by decide +kernel), List.mem_of_getElem? (i := 1375) (by decide +kernel), List.mem_of_getElem? (i := 1376) (by decide +kernel)⟩
theorem lw_p30 : lw_okq (⟨"ColdHoldsModel", "above", "(I)I"⟩, 78) := ⟨⟨by decide +kernel, by decide +kernel⟩, List.mem_of_getElem? (i := 1077) (by decide +kernel), List.mem_of_getElem? (i := 1392) (by decide +kernel), List.mem_of_getElem? (i := 1393) (by decide +kernel)⟩
theorem lw_p31 : lw_okq (⟨"ColdHoldsModel", "isLot", "(I)Z"⟩, 78) := ⟨⟨by decide +kernel, by decide +kernel⟩, List.mem_of_getElem? (i := 1077) (by decide +kernel), List.mem_of_getElem? (i := 1404) (by decide +kernel), List.mem_of_getElem? (i := 1405) (by decide +kernel)⟩
def lw_privs_2 : List (MethodName × Nat) := [(⟨"ColdHolds$Market", "alike", "(II)Z"⟩, 6), (⟨"ColdHolds$Farms", "fallenAfter", "(II)I"⟩, 5), (⟨"ColdHolds$Farms", "left", "(III)I"⟩, 5), (⟨"ColdHolds$Ring", "shipsOf", "(I)I"⟩, 4), (⟨"ColdHolds$Ring", "holds", "(I)Z"⟩, 4), (⟨"ColdHolds$Choices", "isBetter", "(III)Z"⟩, 3), (⟨"ColdHolds$Choices", "givenIn", "(II)I"⟩, 3), (⟨"ColdHolds", "howMany", "(I)I"⟩, 12), (⟨"ColdHolds", "mixLots", "(J)J"⟩, 12), (⟨"ColdHolds", "mixSums", "(J)J"⟩, 12), (⟨"ColdHoldsModel", "seaOf", "(I)I"⟩, 78), (⟨"ColdHoldsModel", "startAsNow", "()V"⟩, 78), (⟨"ColdHoldsModel", "anHour", "(I)Z"⟩, 78), (⟨"ColdHoldsModel", "besides", "(I)I"⟩, 78), (⟨"ColdHoldsModel", "above", "(I)I"⟩, 78), (⟨"ColdHoldsModel", "isLot", "(I)Z"⟩, 78)]
theorem lw_r2 : ∀ q ∈ lw_privs_2, lw_okq q := List.forall_mem_cons.mpr ⟨lw_p16, List.forall_mem_cons.mpr ⟨lw_p17, List.forall_mem_cons.mpr ⟨lw_p18, List.forall_mem_cons.mpr ⟨lw_p19, List.forall_mem_cons.mpr ⟨lw_p20, List.forall_mem_cons.mpr ⟨lw_p21, List.forall_mem_cons.mpr ⟨lw_p22, List.forall_mem_cons.mpr ⟨lw_p23, List.forall_mem_cons.mpr ⟨lw_p24, List.forall_mem_cons.mpr ⟨lw_p25, List.forall_mem_cons.mpr ⟨lw_p26, List.forall_mem_cons.mpr ⟨lw_p27, List.forall_mem_cons.mpr ⟨lw_p28, List.forall_mem_cons.mpr ⟨lw_p29, List.forall_mem_cons.mpr ⟨lw_p30, List.forall_mem_cons.mpr ⟨lw_p31, fun _ h => absurd h List.not_mem_nil⟩⟩⟩⟩⟩⟩⟩⟩⟩⟩⟩⟩⟩⟩⟩⟩
theorem lw_p32 : lw_okq (⟨"ColdHoldsModel", "aboutOf", "(II)I"⟩, 78) := ⟨⟨by decide +kernel, by decide +kernel⟩, List.mem_of_getElem? (i := 1077) (by decide +kernel), List.mem_of_getElem? (i := 1412) (by decide +kernel), List.mem_of_getElem? (i := 1413) (by decide +kernel)⟩
theorem lw_p33 : lw_okq (⟨"ColdHoldsModel", "worthOf", "(I)I"⟩, 78) := ⟨⟨by decide +kernel, by decide +kernel⟩, List.mem_of_getElem? (i := 1077) (by decide +kernel), List.mem_of_getElem? (i := 1416) (by decide +kernel), List.mem_of_getElem? (i := 1417) (by decide +kernel)⟩
theorem lw_p34 : lw_okq (⟨"ColdHoldsModel", "readText", "()V"⟩, 78) := ⟨⟨by decide +kernel, by decide +kernel⟩, List.mem_of_getElem? (i := 1077) (by decide +kernel), List.mem_of_getElem? (i := 1437) (by decide +kernel), List.mem_of_getElem? (i := 1438) (by decide +kernel)⟩
theorem lw_p35 : lw_okq (⟨"ColdHoldsModel", "sumOf", "(III)J"⟩, 78) := ⟨⟨by decide +kernel, by decide +kernel⟩, List.mem_of_getElem? (i := 1077) (by decide +kernel), List.mem_of_getElem? (i := 1452) (by decide +kernel), List.mem_of_getElem? (i := 1453) (by decide +kernel)⟩
theorem lw_p36 : lw_okq (⟨"ColdHoldsModel", "markOf", "(I)I"⟩, 78) := ⟨⟨by decide +kernel, by decide +kernel⟩, List.mem_of_getElem? (i := 1077) (by decide +kernel), List.mem_of_getElem? (i := 1456) (by decide +kernel), List.mem_of_getElem? (i := 1457) (by decide +kernel)⟩
theorem lw_p37 : lw_okq (⟨"ColdHoldsModel", "sumFrom", "(III)J"⟩, 78) := ⟨⟨by decide +kernel, by decide +kernel⟩, List.mem_of_getElem? (i := 1077) (by decide +kernel), List.mem_of_getElem? (i := 1460) (by decide +kernel), List.mem_of_getElem? (i := 1461) (by decide +kernel)⟩
theorem lw_p38 : lw_okq (⟨"ColdHoldsModel", "openSum", "()V"⟩, 78) := ⟨⟨by decide +kernel, by decide +kernel⟩, List.mem_of_getElem? (i := 1077) (by decide +kernel), List.mem_of_getElem? (i := 1464) (by decide +kernel), List.mem_of_getElem? (i := 1465) (by decide +kernel)⟩
theorem lw_p39 : lw_okq (⟨"ColdHoldsModel", "closeSum", "()J"⟩, 78) := ⟨⟨by decide +kernel, by decide +kernel⟩, List.mem_of_getElem? (i := 1077) (by decide +kernel), List.mem_of_getElem? (i := 1468) (by decide +kernel), List.mem_of_getElem? (i := 1469) (by decide +kernel)⟩
theorem lw_p40 : lw_okq (⟨"ColdHoldsModel", "lostBy", "(II)I"⟩, 78) := ⟨⟨by decide +kernel, by decide +kernel⟩, List.mem_of_getElem? (i := 1077) (by decide +kernel), List.mem_of_getElem? (i := 1483) (by decide +kernel), List.mem_of_getElem? (i := 1484) (by decide +kernel)⟩
theorem lw_p41 : lw_okq (⟨"ColdHoldsModel", "goTogether", "()Z"⟩, 78) := ⟨⟨by decide +kernel, by decide +kernel⟩, List.mem_of_getElem? (i := 1077) (by decide +kernel), List.mem_of_getElem? (i := 1503) (by decide +kernel), List.mem_of_getElem? (i := 1504) (by decide +kernel)⟩
theorem lw_p42 : lw_okq (⟨"ColdHoldsModel", "couldBe", "(II)I"⟩, 78) := ⟨⟨by decide +kernel, by decide +kernel⟩, List.mem_of_getElem? (i := 1077) (by decide +kernel), List.mem_of_getElem? (i := 1507) (by decide +kernel), List.mem_of_getElem? (i := 1508) (by decide +kernel)⟩
theorem lw_p43 : lw_okq (⟨"ColdHoldsModel", "reach", "(II)I"⟩, 78) := ⟨⟨by decide +kernel, by decide +kernel⟩, List.mem_of_getElem? (i := 1077) (by decide +kernel), List.mem_of_getElem? (i := 1511) (by decide +kernel), List.mem_of_getElem? (i := 1512) (by decide +kernel)⟩
theorem lw_p44 : lw_okq (⟨"ColdHoldsModel", "seekLaid", "(II)V"⟩, 78) := ⟨⟨by decide +kernel, by decide +kernel⟩, List.mem_of_getElem? (i := 1077) (by decide +kernel), List.mem_of_getElem? (i := 1527) (by decide +kernel), List.mem_of_getElem? (i := 1528) (by decide +kernel)⟩
theorem lw_p45 : lw_okq (⟨"ColdHoldsModel", "dugWith", "(II)I"⟩, 78) := ⟨⟨by decide +kernel, by decide +kernel⟩, List.mem_of_getElem? (i := 1077) (by decide +kernel), List.mem_of_getElem? (i := 1534) (by decide +kernel), List.mem_of_getElem? (i := 1535) (by decide +kernel)⟩
theorem lw_p46 : lw_okq (⟨"ColdHoldsModel", "isFlock", "(I)Z"⟩, 78) := ⟨⟨by decide +kernel, by decide +kernel⟩, List.mem_of_getElem? (i := 1077) (by decide +kernel), List.mem_of_getElem? (i := 1550) (by decide +kernel), List.mem_of_getElem? (i := 1551) (by decide +kernel)⟩
theorem lw_p47 : lw_okq (⟨"ColdHoldsModel", "seekDriven", "()I"⟩, 78) := ⟨⟨by decide +kernel, by decide +kernel⟩, List.mem_of_getElem? (i := 1077) (by decide +kernel), List.mem_of_getElem? (i := 1562) (by decide +kernel), List.mem_of_getElem? (i := 1563) (by decide +kernel)⟩
def lw_privs_3 : List (MethodName × Nat) := [(⟨"ColdHoldsModel", "aboutOf", "(II)I"⟩, 78), (⟨"ColdHoldsModel", "worthOf", "(I)I"⟩, 78), (⟨"ColdHoldsModel", "readText", "()V"⟩, 78), (⟨"ColdHoldsModel", "sumOf", "(III)J"⟩, 78), (⟨"ColdHoldsModel", "markOf", "(I)I"⟩, 78), (⟨"ColdHoldsModel", "sumFrom", "(III)J"⟩, 78), (⟨"ColdHoldsModel", "openSum", "()V"⟩, 78), (⟨"ColdHoldsModel", "closeSum", "()J"⟩, 78), (⟨"ColdHoldsModel", "lostBy", "(II)I"⟩, 78), (⟨"ColdHoldsModel", "goTogether", "()Z"⟩, 78), (⟨"ColdHoldsModel", "couldBe", "(II)I"⟩, 78), (⟨"ColdHoldsModel", "reach", "(II)I"⟩, 78), (⟨"ColdHoldsModel", "seekLaid", "(II)V"⟩, 78), (⟨"ColdHoldsModel", "dugWith", "(II)I"⟩, 78), (⟨"ColdHoldsModel", "isFlock", "(I)Z"⟩, 78), (⟨"ColdHoldsModel", "seekDriven", "()I"⟩, 78)]
theorem lw_r3 : ∀ q ∈ lw_privs_3, lw_okq q := List.forall_mem_cons.mpr ⟨lw_p32, List.forall_mem_cons.mpr ⟨lw_p33, List.forall_mem_cons.mpr ⟨lw_p34, List.forall_mem_cons.mpr ⟨lw_p35, List.forall_mem_cons.mpr ⟨lw_p36, List.forall_mem_cons.mpr ⟨lw_p37, List.forall_mem_cons.mpr ⟨lw_p38, List.forall_mem_cons.mpr ⟨lw_p39, List.forall_mem_cons.mpr ⟨lw_p40, List.forall_mem_cons.mpr ⟨lw_p41, List.forall_mem_cons.mpr ⟨lw_p42, List.forall_mem_cons.mpr ⟨lw_p43, List.forall_mem_cons.mpr ⟨lw_p44, List.forall_mem_cons.mpr ⟨lw_p45, List.forall_mem_cons.mpr ⟨lw_p46, List.forall_mem_cons.mpr ⟨lw_p47, fun _ h => absurd h List.not_mem_nil⟩⟩⟩⟩⟩⟩⟩⟩⟩⟩⟩⟩⟩⟩⟩⟩
theorem lw_p48 : lw_okq (⟨"ColdHoldsModel", "comesOf", "(II)I"⟩, 78) := ⟨⟨by decide +kernel, by decide +kernel⟩, List.mem_of_getElem? (i := 1077) (by decide +kernel), List.mem_of_getElem? (i := 1566) (by decide +kernel), List.mem_of_getElem? (i := 1567) (by decide +kernel)⟩
theorem lw_p49 : lw_okq (⟨"ColdHoldsModel", "goWeeks", "()V"⟩, 78) := ⟨⟨by decide +kernel, by decide +kernel⟩, List.mem_of_getElem? (i := 1077) (by decide +kernel), List.mem_of_getElem? (i := 1582) (by decide +kernel), List.mem_of_getElem? (i := 1583) (by decide +kernel)⟩
theorem lw_p50 : lw_okq (⟨"ColdHoldsModel", "shippedAt", "(I)I"⟩, 78) := ⟨⟨by decide +kernel, by decide +kernel⟩, List.mem_of_getElem? (i := 1077) (by decide +kernel), List.mem_of_getElem? (i := 1586) (by decide +kernel), List.mem_of_getElem? (i := 1587) (by decide +kernel)⟩
theorem lw_p51 : lw_okq (⟨"ColdHoldsModel", "priceAt", "(I)I"⟩, 78) := ⟨⟨by decide +kernel, by decide +kernel⟩, List.mem_of_getElem? (i := 1077) (by decide +kernel), List.mem_of_getElem? (i := 1590) (by decide +kernel), List.mem_of_getElem? (i := 1591) (by decide +kernel)⟩
theorem lw_p52 : lw_okq (⟨"ColdHoldsModel", "isAgain", "(II)Z"⟩, 78) := ⟨⟨by decide +kernel, by decide +kernel⟩, List.mem_of_getElem? (i := 1077) (by decide +kernel), List.mem_of_getElem? (i := 1598) (by decide +kernel), List.mem_of_getElem? (i := 1599) (by decide +kernel)⟩
theorem lw_p53 : lw_okq (⟨"ColdHoldsModel", "fallenAt", "(I)I"⟩, 78) := ⟨⟨by decide +kernel, by decide +kernel⟩, List.mem_of_getElem? (i := 1077) (by decide +kernel), List.mem_of_getElem? (i := 1614) (by decide +kernel), List.mem_of_getElem? (i := 1615) (by decide +kernel)⟩
theorem lw_p54 : lw_okq (⟨"ColdHoldsModel", "earnsOf", "(II)J"⟩, 78) := ⟨⟨by decide +kernel, by decide +kernel⟩, List.mem_of_getElem? (i := 1077) (by decide +kernel), List.mem_of_getElem? (i := 1634) (by decide +kernel), List.mem_of_getElem? (i := 1635) (by decide +kernel)⟩
theorem lw_p55 : lw_okq (⟨"ColdHoldsModel", "shipsIn", "(I)I"⟩, 78) := ⟨⟨by decide +kernel, by decide +kernel⟩, List.mem_of_getElem? (i := 1077) (by decide +kernel), List.mem_of_getElem? (i := 1638) (by decide +kernel), List.mem_of_getElem? (i := 1639) (by decide +kernel)⟩
theorem lw_p56 : lw_okq (⟨"ColdHoldsModel", "isStable", "(I)Z"⟩, 78) := ⟨⟨by decide +kernel, by decide +kernel⟩, List.mem_of_getElem? (i := 1077) (by decide +kernel), List.mem_of_getElem? (i := 1648) (by decide +kernel), List.mem_of_getElem? (i := 1649) (by decide +kernel)⟩
theorem lw_p57 : lw_okq (⟨"ColdHoldsModel", "costOf", "(I)I"⟩, 78) := ⟨⟨by decide +kernel, by decide +kernel⟩, List.mem_of_getElem? (i := 1077) (by decide +kernel), List.mem_of_getElem? (i := 1665) (by decide +kernel), List.mem_of_getElem? (i := 1666) (by decide +kernel)⟩
theorem lw_p58 : lw_okq (⟨"ColdHoldsModel", "worstOf", "(II)I"⟩, 78) := ⟨⟨by decide +kernel, by decide +kernel⟩, List.mem_of_getElem? (i := 1077) (by decide +kernel), List.mem_of_getElem? (i := 1669) (by decide +kernel), List.mem_of_getElem? (i := 1670) (by decide +kernel)⟩
theorem lw_p59 : lw_okq (⟨"ColdHoldsModel", "countOf", "(I)I"⟩, 78) := ⟨⟨by decide +kernel, by decide +kernel⟩, List.mem_of_getElem? (i := 1077) (by decide +kernel), List.mem_of_getElem? (i := 1677) (by decide +kernel), List.mem_of_getElem? (i := 1678) (by decide +kernel)⟩
theorem lw_p60 : lw_okq (⟨"ColdHoldsModel", "mixHold", "()V"⟩, 78) := ⟨⟨by decide +kernel, by decide +kernel⟩, List.mem_of_getElem? (i := 1077) (by decide +kernel), List.mem_of_getElem? (i := 1686) (by decide +kernel), List.mem_of_getElem? (i := 1687) (by decide +kernel)⟩
theorem lw_p61 : lw_okq (⟨"ColdHoldsModel", "mix", "(J)V"⟩, 78) := ⟨⟨by decide +kernel, by decide +kernel⟩, List.mem_of_getElem? (i := 1077) (by decide +kernel), List.mem_of_getElem? (i := 1690) (by decide +kernel), List.mem_of_getElem? (i := 1691) (by decide +kernel)⟩
theorem lw_p62 : lw_okq (⟨"ColdHoldsModel", "mixLand", "()V"⟩, 78) := ⟨⟨by decide +kernel, by decide +kernel⟩, List.mem_of_getElem? (i := 1077) (by decide +kernel), List.mem_of_getElem? (i := 1695) (by decide +kernel), List.mem_of_getElem? (i := 1696) (by decide +kernel)⟩
def lw_privs_4 : List (MethodName × Nat) := [(⟨"ColdHoldsModel", "comesOf", "(II)I"⟩, 78), (⟨"ColdHoldsModel", "goWeeks", "()V"⟩, 78), (⟨"ColdHoldsModel", "shippedAt", "(I)I"⟩, 78), (⟨"ColdHoldsModel", "priceAt", "(I)I"⟩, 78), (⟨"ColdHoldsModel", "isAgain", "(II)Z"⟩, 78), (⟨"ColdHoldsModel", "fallenAt", "(I)I"⟩, 78), (⟨"ColdHoldsModel", "earnsOf", "(II)J"⟩, 78), (⟨"ColdHoldsModel", "shipsIn", "(I)I"⟩, 78), (⟨"ColdHoldsModel", "isStable", "(I)Z"⟩, 78), (⟨"ColdHoldsModel", "costOf", "(I)I"⟩, 78), (⟨"ColdHoldsModel", "worstOf", "(II)I"⟩, 78), (⟨"ColdHoldsModel", "countOf", "(I)I"⟩, 78), (⟨"ColdHoldsModel", "mixHold", "()V"⟩, 78), (⟨"ColdHoldsModel", "mix", "(J)V"⟩, 78), (⟨"ColdHoldsModel", "mixLand", "()V"⟩, 78)]
theorem lw_r4 : ∀ q ∈ lw_privs_4, lw_okq q := List.forall_mem_cons.mpr ⟨lw_p48, List.forall_mem_cons.mpr ⟨lw_p49, List.forall_mem_cons.mpr ⟨lw_p50, List.forall_mem_cons.mpr ⟨lw_p51, List.forall_mem_cons.mpr ⟨lw_p52, List.forall_mem_cons.mpr ⟨lw_p53, List.forall_mem_cons.mpr ⟨lw_p54, List.forall_mem_cons.mpr ⟨lw_p55, List.forall_mem_cons.mpr ⟨lw_p56, List.forall_mem_cons.mpr ⟨lw_p57, List.forall_mem_cons.mpr ⟨lw_p58, List.forall_mem_cons.mpr ⟨lw_p59, List.forall_mem_cons.mpr ⟨lw_p60, List.forall_mem_cons.mpr ⟨lw_p61, List.forall_mem_cons.mpr ⟨lw_p62, fun _ h => absurd h List.not_mem_nil⟩⟩⟩⟩⟩⟩⟩⟩⟩⟩⟩⟩⟩⟩⟩
def lw_privs : List (MethodName × Nat) := lw_privs_1 ++ (lw_privs_2 ++ (lw_privs_3 ++ (lw_privs_4)))
def lw_tbl : List Cond := k2_sels lw_privs ++ tables_1
theorem lw_privs_ok : ∀ q ∈ lw_privs, lw_okq q := by
  show ∀ q ∈ lw_privs_1 ++ (lw_privs_2 ++ (lw_privs_3 ++ (lw_privs_4))), lw_okq q
  exact List.forall_mem_append.mpr ⟨lw_r1, List.forall_mem_append.mpr ⟨lw_r2, List.forall_mem_append.mpr ⟨lw_r3, lw_r4⟩⟩⟩

def RX0 : String := "ColdHolds$Air"
def TX0 : u_T := fun k => match k with
  | 0 => ("ColdHolds$Air", "warmth", "[I", true)
  | 1 => ("ColdHolds$Air", "rot", "[I", true)
  | 2 => ("ColdHolds$Air", "coal", "I", false)
  | _ => ("ColdHolds$Air", "next", "[I", true)
def tyX0 : Nat → FieldType := fun k => match k with
  | 0 => .array .int
  | 1 => .array .int
  | 2 => .int
  | _ => .array .int
abbrev wsX00 : List Cond := u_ws RX0 TX0 4
theorem nmX0 : ∀ a, a < 4 → ∀ b, b < 4 → a ≠ b → (TX0 a).2.1 ≠ (TX0 b).2.1 := by decide +kernel
theorem tyX0_ok : ∀ k, k < 4 → parseFieldDescriptor (TX0 k).2.2.1 = some (tyX0 k) := by decide +kernel
abbrev cX0_init : ByteArray := prog_2_method_1_code
def yX0_init : MethodName := ⟨RX0, "<init>", "()V"⟩
abbrev cX0_takeFrom : ByteArray := prog_2_method_2_code
def yX0_takeFrom : MethodName := ⟨RX0, "takeFrom", "(LColdHolds$Air;)V"⟩
abbrev cX0_pass : ByteArray := prog_2_method_3_code
def yX0_pass : MethodName := ⟨RX0, "pass", "(LColdHolds$Hold;IZ)Z"⟩
abbrev cX0_firstAbove : ByteArray := prog_2_method_4_code
def yX0_firstAbove : MethodName := ⟨RX0, "firstAbove", "(I)I"⟩
def RX1 : String := "ColdHolds$Choices"
def TX1 : u_T := fun k => match k with
  | 0 => ("ColdHolds$Choices", "yields", "[[I", true)
  | 1 => ("ColdHolds$Choices", "many", "I", false)
  | _ => ("ColdHolds$Choices", "cost", "[I", true)
def tyX1 : Nat → FieldType := fun k => match k with
  | 0 => .array (.array .int)
  | 1 => .int
  | _ => .array .int
abbrev wsX10 : List Cond := u_ws RX1 TX1 3
theorem nmX1 : ∀ a, a < 3 → ∀ b, b < 3 → a ≠ b → (TX1 a).2.1 ≠ (TX1 b).2.1 := by decide +kernel
theorem tyX1_ok : ∀ k, k < 3 → parseFieldDescriptor (TX1 k).2.2.1 = some (tyX1 k) := by decide +kernel
abbrev cX1_init : ByteArray := prog_3_method_1_code
def yX1_init : MethodName := ⟨RX1, "<init>", "()V"⟩
abbrev cX1_add : ByteArray := prog_3_method_2_code
def yX1_add : MethodName := ⟨RX1, "add", "(I)I"⟩
abbrev cX1_bestFor : ByteArray := prog_3_method_3_code
def yX1_bestFor : MethodName := ⟨RX1, "bestFor", "(II)I"⟩
abbrev cX1_isBetter : ByteArray := prog_3_method_4_code
def yX1_isBetter : MethodName := ⟨RX1, "isBetter", "(III)Z"⟩
abbrev cX1_costOf : ByteArray := prog_3_method_5_code
def yX1_costOf : MethodName := ⟨RX1, "costOf", "(I)I"⟩
abbrev cX1_worstOf : ByteArray := prog_3_method_6_code
def yX1_worstOf : MethodName := ⟨RX1, "worstOf", "(II)I"⟩
abbrev cX1_givenIn : ByteArray := prog_3_method_7_code
def yX1_givenIn : MethodName := ⟨RX1, "givenIn", "(II)I"⟩
abbrev cX1_mixed : ByteArray := prog_3_method_8_code
def yX1_mixed : MethodName := ⟨RX1, "mixed", "(J)J"⟩
def RX2 : String := "ColdHolds$Drive"
def TX2 : u_T := fun k => match k with
  | 0 => ("ColdHolds$Drive", "takes", "[I", true)
  | 1 => ("ColdHolds$Drive", "away", "[[I", true)
  | 2 => ("ColdHolds$Drive", "many", "I", false)
  | 3 => ("ColdHolds$Drive", "aDay", "I", false)
  | 4 => ("ColdHolds$Drive", "most", "I", false)
  | 5 => ("ColdHolds$Drive", "sheep", "[I", true)
  | 6 => ("ColdHolds$Drive", "fat", "[I", true)
  | 7 => ("ColdHolds$Drive", "room", "[I", true)
  | 8 => ("ColdHolds$Drive", "goes", "[I", true)
  | 9 => ("ColdHolds$Drive", "best", "[I", true)
  | _ => ("ColdHolds$Drive", "hope", "[I", true)
def tyX2 : Nat → FieldType := fun k => match k with
  | 0 => .array .int
  | 1 => .array (.array .int)
  | 2 => .int
  | 3 => .int
  | 4 => .int
  | 5 => .array .int
  | 6 => .array .int
  | 7 => .array .int
  | 8 => .array .int
  | 9 => .array .int
  | _ => .array .int
abbrev wsX20 : List Cond := u_ws RX2 TX2 11
theorem nmX2 : ∀ a, a < 11 → ∀ b, b < 11 → a ≠ b → (TX2 a).2.1 ≠ (TX2 b).2.1 := by decide +kernel
theorem tyX2_ok : ∀ k, k < 11 → parseFieldDescriptor (TX2 k).2.2.1 = some (tyX2 k) := by decide +kernel
abbrev cX2_init : ByteArray := prog_4_method_1_code
def yX2_init : MethodName := ⟨RX2, "<init>", "()V"⟩
abbrev cX2_add : ByteArray := prog_4_method_2_code
def yX2_add : MethodName := ⟨RX2, "add", "(II)I"⟩
abbrev cX2_goesOf : ByteArray := prog_4_method_3_code
def yX2_goesOf : MethodName := ⟨RX2, "goesOf", "(I)I"⟩
abbrev cX2_comesOf : ByteArray := prog_4_method_4_code
def yX2_comesOf : MethodName := ⟨RX2, "comesOf", "(II)I"⟩
abbrev cX2_driveBest : ByteArray := prog_4_method_5_code
def yX2_driveBest : MethodName := ⟨RX2, "driveBest", "()V"⟩
abbrev cX2_mostOf : ByteArray := prog_4_method_6_code
def yX2_mostOf : MethodName := ⟨RX2, "mostOf", "(I)I"⟩
abbrev cX2_send : ByteArray := prog_4_method_7_code
def yX2_send : MethodName := ⟨RX2, "send", "(LColdHolds$Drive;II)V"⟩
abbrev cX2_mixed : ByteArray := prog_4_method_8_code
def yX2_mixed : MethodName := ⟨RX2, "mixed", "(J)J"⟩
def RX3 : String := "ColdHolds$Farms"
def TX3 : u_T := fun k => match k with
  | 0 => ("ColdHolds$Farms", "owes", "[[I", true)
  | 1 => ("ColdHolds$Farms", "many", "I", false)
  | 2 => ("ColdHolds$Farms", "rounds", "I", false)
  | 3 => ("ColdHolds$Farms", "gain", "[I", true)
  | _ => ("ColdHolds$Farms", "own", "[I", true)
def tyX3 : Nat → FieldType := fun k => match k with
  | 0 => .array (.array .int)
  | 1 => .int
  | 2 => .int
  | 3 => .array .int
  | _ => .array .int
abbrev wsX30 : List Cond := u_ws RX3 TX3 5
theorem nmX3 : ∀ a, a < 5 → ∀ b, b < 5 → a ≠ b → (TX3 a).2.1 ≠ (TX3 b).2.1 := by decide +kernel
theorem tyX3_ok : ∀ k, k < 5 → parseFieldDescriptor (TX3 k).2.2.1 = some (tyX3 k) := by decide +kernel
abbrev cX3_init : ByteArray := prog_5_method_1_code
def yX3_init : MethodName := ⟨RX3, "<init>", "()V"⟩
abbrev cX3_isOne : ByteArray := prog_5_method_2_code
def yX3_isOne : MethodName := ⟨RX3, "isOne", "(I)Z"⟩
abbrev cX3_add : ByteArray := prog_5_method_3_code
def yX3_add : MethodName := ⟨RX3, "add", "(II)I"⟩
abbrev cX3_fallenAt : ByteArray := prog_5_method_4_code
def yX3_fallenAt : MethodName := ⟨RX3, "fallenAt", "(I)I"⟩
abbrev cX3_fallenAfter : ByteArray := prog_5_method_5_code
def yX3_fallenAfter : MethodName := ⟨RX3, "fallenAfter", "(II)I"⟩
abbrev cX3_left : ByteArray := prog_5_method_6_code
def yX3_left : MethodName := ⟨RX3, "left", "(III)I"⟩
abbrev cX3_leastPrice : ByteArray := prog_5_method_7_code
def yX3_leastPrice : MethodName := ⟨RX3, "leastPrice", "(I)I"⟩
abbrev cX3_mixed : ByteArray := prog_5_method_8_code
def yX3_mixed : MethodName := ⟨RX3, "mixed", "(J)J"⟩
def RX4 : String := "ColdHolds$Hold"
def TX4 : u_T := fun k => match k with
  | 0 => ("ColdHolds$Hold", "outer", "[I", true)
  | 1 => ("ColdHolds$Hold", "pipe", "[I", true)
  | 2 => ("ColdHolds$Hold", "set", "[I", true)
  | 3 => ("ColdHolds$Hold", "legs", "I", false)
  | 4 => ("ColdHolds$Hold", "gone", "I", false)
  | 5 => ("ColdHolds$Hold", "brokenFrom", "I", false)
  | 6 => ("ColdHolds$Hold", "legHours", "[I", true)
  | _ => ("ColdHolds$Hold", "legSea", "[I", true)
def tyX4 : Nat → FieldType := fun k => match k with
  | 0 => .array .int
  | 1 => .array .int
  | 2 => .array .int
  | 3 => .int
  | 4 => .int
  | 5 => .int
  | 6 => .array .int
  | _ => .array .int
abbrev wsX40 : List Cond := u_ws RX4 TX4 8
theorem nmX4 : ∀ a, a < 8 → ∀ b, b < 8 → a ≠ b → (TX4 a).2.1 ≠ (TX4 b).2.1 := by decide +kernel
theorem tyX4_ok : ∀ k, k < 8 → parseFieldDescriptor (TX4 k).2.2.1 = some (tyX4 k) := by decide +kernel
abbrev cX4_init : ByteArray := prog_6_method_1_code
def yX4_init : MethodName := ⟨RX4, "<init>", "()V"⟩
abbrev cX4_addLeg : ByteArray := prog_6_method_2_code
def yX4_addLeg : MethodName := ⟨RX4, "addLeg", "(II)I"⟩
abbrev cX4_allHours : ByteArray := prog_6_method_3_code
def yX4_allHours : MethodName := ⟨RX4, "allHours", "()I"⟩
abbrev cX4_seaOf : ByteArray := prog_6_method_4_code
def yX4_seaOf : MethodName := ⟨RX4, "seaOf", "(I)I"⟩
abbrev cX4_nextWarmth : ByteArray := prog_6_method_5_code
def yX4_nextWarmth : MethodName := ⟨RX4, "nextWarmth", "([IIIZ)I"⟩
abbrev cX4_pull : ByteArray := prog_6_method_6_code
def yX4_pull : MethodName := ⟨RX4, "pull", "([II)I"⟩
abbrev cX4_mixed : ByteArray := prog_6_method_7_code
def yX4_mixed : MethodName := ⟨RX4, "mixed", "(J[I)J"⟩
def RX5 : String := "ColdHolds$Lots"
def TX5 : u_T := fun k => match k with
  | 0 => ("ColdHolds$Lots", "kind", "[I", true)
  | 1 => ("ColdHolds$Lots", "cell", "[I", true)
  | 2 => ("ColdHolds$Lots", "laidAt", "[I", true)
  | 3 => ("ColdHolds$Lots", "many", "I", false)
  | _ => ("ColdHolds$Lots", "came", "[[I", true)
def tyX5 : Nat → FieldType := fun k => match k with
  | 0 => .array .int
  | 1 => .array .int
  | 2 => .array .int
  | 3 => .int
  | _ => .array (.array .int)
abbrev wsX50 : List Cond := u_ws RX5 TX5 5
theorem nmX5 : ∀ a, a < 5 → ∀ b, b < 5 → a ≠ b → (TX5 a).2.1 ≠ (TX5 b).2.1 := by decide +kernel
theorem tyX5_ok : ∀ k, k < 5 → parseFieldDescriptor (TX5 k).2.2.1 = some (tyX5 k) := by decide +kernel
abbrev cX5_init : ByteArray := prog_7_method_1_code
def yX5_init : MethodName := ⟨RX5, "<init>", "()V"⟩
abbrev cX5_isKind : ByteArray := prog_7_method_2_code
def yX5_isKind : MethodName := ⟨RX5, "isKind", "(I)Z"⟩
abbrev cX5_isSuch : ByteArray := prog_7_method_3_code
def yX5_isSuch : MethodName := ⟨RX5, "isSuch", "(II)Z"⟩
abbrev cX5_isOne : ByteArray := prog_7_method_4_code
def yX5_isOne : MethodName := ⟨RX5, "isOne", "(I)Z"⟩
abbrev cX5_add : ByteArray := prog_7_method_5_code
def yX5_add : MethodName := ⟨RX5, "add", "(III)I"⟩
abbrev cX5_spoilIn : ByteArray := prog_7_method_6_code
def yX5_spoilIn : MethodName := ⟨RX5, "spoilIn", "(LColdHolds$Air;)V"⟩
abbrev cX5_noteStates : ByteArray := prog_7_method_7_code
def yX5_noteStates : MethodName := ⟨RX5, "noteStates", "(LColdHolds$Air;I)V"⟩
abbrev cX5_lostIn : ByteArray := prog_7_method_8_code
def yX5_lostIn : MethodName := ⟨RX5, "lostIn", "(LColdHolds$Air;)I"⟩
abbrev cX5_tell : ByteArray := prog_7_method_9_code
def yX5_tell : MethodName := ⟨RX5, "tell", "(IILColdHolds$Air;I)I"⟩
abbrev cX5_stateFrom : ByteArray := prog_7_method_10_code
def yX5_stateFrom : MethodName := ⟨RX5, "stateFrom", "(I)I"⟩
abbrev cX5_spoils : ByteArray := prog_7_method_11_code
def yX5_spoils : MethodName := ⟨RX5, "spoils", "(II)I"⟩
abbrev cX5_carcassSpoils : ByteArray := prog_7_method_12_code
def yX5_carcassSpoils : MethodName := ⟨RX5, "carcassSpoils", "(I)I"⟩
abbrev cX5_worth : ByteArray := prog_7_method_13_code
def yX5_worth : MethodName := ⟨RX5, "worth", "(I)I"⟩
def RX6 : String := "ColdHolds$Market"
def TX6 : u_T := fun k => match k with
  | 0 => ("ColdHolds$Market", "set", "[I", true)
  | 1 => ("ColdHolds$Market", "many", "I", false)
  | 2 => ("ColdHolds$Market", "load", "[I", true)
  | 3 => ("ColdHolds$Market", "limit", "[I", true)
  | 4 => ("ColdHolds$Market", "price", "[I", true)
  | _ => ("ColdHolds$Market", "shipped", "[I", true)
def tyX6 : Nat → FieldType := fun k => match k with
  | 0 => .array .int
  | 1 => .int
  | 2 => .array .int
  | 3 => .array .int
  | 4 => .array .int
  | _ => .array .int
abbrev wsX60 : List Cond := u_ws RX6 TX6 6
theorem nmX6 : ∀ a, a < 6 → ∀ b, b < 6 → a ≠ b → (TX6 a).2.1 ≠ (TX6 b).2.1 := by decide +kernel
theorem tyX6_ok : ∀ k, k < 6 → parseFieldDescriptor (TX6 k).2.2.1 = some (tyX6 k) := by decide +kernel
abbrev cX6_init : ByteArray := prog_8_method_1_code
def yX6_init : MethodName := ⟨RX6, "<init>", "()V"⟩
abbrev cX6_add : ByteArray := prog_8_method_2_code
def yX6_add : MethodName := ⟨RX6, "add", "(II)I"⟩
abbrev cX6_run : ByteArray := prog_8_method_3_code
def yX6_run : MethodName := ⟨RX6, "run", "()V"⟩
abbrev cX6_priceIn : ByteArray := prog_8_method_4_code
def yX6_priceIn : MethodName := ⟨RX6, "priceIn", "(I)I"⟩
abbrev cX6_shippedIn : ByteArray := prog_8_method_5_code
def yX6_shippedIn : MethodName := ⟨RX6, "shippedIn", "(I)I"⟩
abbrev cX6_sellersAt : ByteArray := prog_8_method_6_code
def yX6_sellersAt : MethodName := ⟨RX6, "sellersAt", "(I)I"⟩
abbrev cX6_loadOf : ByteArray := prog_8_method_7_code
def yX6_loadOf : MethodName := ⟨RX6, "loadOf", "(I)I"⟩
abbrev cX6_tell : ByteArray := prog_8_method_8_code
def yX6_tell : MethodName := ⟨RX6, "tell", "(II)I"⟩
abbrev cX6_turn : ByteArray := prog_8_method_9_code
def yX6_turn : MethodName := ⟨RX6, "turn", "(I)I"⟩
abbrev cX6_alike : ByteArray := prog_8_method_10_code
def yX6_alike : MethodName := ⟨RX6, "alike", "(II)Z"⟩
abbrev cX6_mixed : ByteArray := prog_8_method_11_code
def yX6_mixed : MethodName := ⟨RX6, "mixed", "(J)J"⟩
def RX7 : String := "ColdHolds$Readings"
def TX7 : u_T := fun k => match k with
  | 0 => ("ColdHolds$Readings", "many", "I", false)
  | 1 => ("ColdHolds$Readings", "rate", "I", false)
  | 2 => ("ColdHolds$Readings", "hours", "[I", true)
  | _ => ("ColdHolds$Readings", "numbers", "[I", true)
def tyX7 : Nat → FieldType := fun k => match k with
  | 0 => .int
  | 1 => .int
  | 2 => .array .int
  | _ => .array .int
abbrev wsX70 : List Cond := u_ws RX7 TX7 4
theorem nmX7 : ∀ a, a < 4 → ∀ b, b < 4 → a ≠ b → (TX7 a).2.1 ≠ (TX7 b).2.1 := by decide +kernel
theorem tyX7_ok : ∀ k, k < 4 → parseFieldDescriptor (TX7 k).2.2.1 = some (tyX7 k) := by decide +kernel
abbrev cX7_init : ByteArray := prog_9_method_1_code
def yX7_init : MethodName := ⟨RX7, "<init>", "()V"⟩
abbrev cX7_add : ByteArray := prog_9_method_2_code
def yX7_add : MethodName := ⟨RX7, "add", "(II)I"⟩
abbrev cX7_isRead : ByteArray := prog_9_method_3_code
def yX7_isRead : MethodName := ⟨RX7, "isRead", "(I)Z"⟩
abbrev cX7_agree : ByteArray := prog_9_method_4_code
def yX7_agree : MethodName := ⟨RX7, "agree", "()Z"⟩
abbrev cX7_least : ByteArray := prog_9_method_5_code
def yX7_least : MethodName := ⟨RX7, "least", "(I)I"⟩
abbrev cX7_greatest : ByteArray := prog_9_method_6_code
def yX7_greatest : MethodName := ⟨RX7, "greatest", "(I)I"⟩
abbrev cX7_above : ByteArray := prog_9_method_7_code
def yX7_above : MethodName := ⟨RX7, "above", "(III)I"⟩
abbrev cX7_mixed : ByteArray := prog_9_method_8_code
def yX7_mixed : MethodName := ⟨RX7, "mixed", "(J)J"⟩
def RX8 : String := "ColdHolds$Ring"
def TX8 : u_T := fun k => match k with
  | 0 => ("ColdHolds$Ring", "set", "[I", true)
  | 1 => ("ColdHolds$Ring", "many", "I", false)
  | 2 => ("ColdHolds$Ring", "ships", "[I", true)
  | _ => ("ColdHolds$Ring", "cost", "[I", true)
def tyX8 : Nat → FieldType := fun k => match k with
  | 0 => .array .int
  | 1 => .int
  | 2 => .array .int
  | _ => .array .int
abbrev wsX80 : List Cond := u_ws RX8 TX8 4
theorem nmX8 : ∀ a, a < 4 → ∀ b, b < 4 → a ≠ b → (TX8 a).2.1 ≠ (TX8 b).2.1 := by decide +kernel
theorem tyX8_ok : ∀ k, k < 4 → parseFieldDescriptor (TX8 k).2.2.1 = some (tyX8 k) := by decide +kernel
abbrev cX8_init : ByteArray := prog_10_method_1_code
def yX8_init : MethodName := ⟨RX8, "<init>", "()V"⟩
abbrev cX8_add : ByteArray := prog_10_method_2_code
def yX8_add : MethodName := ⟨RX8, "add", "(II)I"⟩
abbrev cX8_allSets : ByteArray := prog_10_method_3_code
def yX8_allSets : MethodName := ⟨RX8, "allSets", "()I"⟩
abbrev cX8_isIn : ByteArray := prog_10_method_4_code
def yX8_isIn : MethodName := ⟨RX8, "isIn", "(II)Z"⟩
abbrev cX8_shipsOf : ByteArray := prog_10_method_5_code
def yX8_shipsOf : MethodName := ⟨RX8, "shipsOf", "(I)I"⟩
abbrev cX8_earned : ByteArray := prog_10_method_6_code
def yX8_earned : MethodName := ⟨RX8, "earned", "(II)J"⟩
abbrev cX8_holds : ByteArray := prog_10_method_7_code
def yX8_holds : MethodName := ⟨RX8, "holds", "(I)Z"⟩
abbrev cX8_howManyHold : ByteArray := prog_10_method_8_code
def yX8_howManyHold : MethodName := ⟨RX8, "howManyHold", "()I"⟩
abbrev cX8_greatestThatHolds : ByteArray := prog_10_method_9_code
def yX8_greatestThatHolds : MethodName := ⟨RX8, "greatestThatHolds", "()I"⟩
abbrev cX8_mixed : ByteArray := prog_10_method_10_code
def yX8_mixed : MethodName := ⟨RX8, "mixed", "(J)J"⟩
def RX9 : String := "ColdHolds$Stacks"
def TX9 : u_T := fun k => match k with
  | 0 => ("ColdHolds$Stacks", "day", "[I", true)
  | 1 => ("ColdHolds$Stacks", "many", "I", false)
  | 2 => ("ColdHolds$Stacks", "fewest", "I", false)
  | 3 => ("ColdHolds$Stacks", "stacks", "I", false)
  | 4 => ("ColdHolds$Stacks", "high", "I", false)
  | 5 => ("ColdHolds$Stacks", "height", "[I", true)
  | 6 => ("ColdHolds$Stacks", "laidOn", "[I", true)
  | _ => ("ColdHolds$Stacks", "best", "[I", true)
def tyX9 : Nat → FieldType := fun k => match k with
  | 0 => .array .int
  | 1 => .int
  | 2 => .int
  | 3 => .int
  | 4 => .int
  | 5 => .array .int
  | 6 => .array .int
  | _ => .array .int
abbrev wsX90 : List Cond := u_ws RX9 TX9 8
theorem nmX9 : ∀ a, a < 8 → ∀ b, b < 8 → a ≠ b → (TX9 a).2.1 ≠ (TX9 b).2.1 := by decide +kernel
theorem tyX9_ok : ∀ k, k < 8 → parseFieldDescriptor (TX9 k).2.2.1 = some (tyX9 k) := by decide +kernel
abbrev cX9_init : ByteArray := prog_11_method_1_code
def yX9_init : MethodName := ⟨RX9, "<init>", "()V"⟩
abbrev cX9_add : ByteArray := prog_11_method_2_code
def yX9_add : MethodName := ⟨RX9, "add", "(I)I"⟩
abbrev cX9_stackOf : ByteArray := prog_11_method_3_code
def yX9_stackOf : MethodName := ⟨RX9, "stackOf", "(I)I"⟩
abbrev cX9_layBest : ByteArray := prog_11_method_4_code
def yX9_layBest : MethodName := ⟨RX9, "layBest", "(II)Z"⟩
abbrev cX9_place : ByteArray := prog_11_method_5_code
def yX9_place : MethodName := ⟨RX9, "place", "(LColdHolds$Stacks;III)V"⟩
abbrev cX9_dugFrom : ByteArray := prog_11_method_6_code
def yX9_dugFrom : MethodName := ⟨RX9, "dugFrom", "(I)I"⟩
def RX10 : String := "ColdHolds$Texts"
def TX10 : u_T := fun k => match k with
  | 0 => ("ColdHolds$Texts", "page", "[I", true)
  | 1 => ("ColdHolds$Texts", "letters", "I", false)
  | 2 => ("ColdHolds$Texts", "many", "I", false)
  | 3 => ("ColdHolds$Texts", "rot", "I", false)
  | 4 => ("ColdHolds$Texts", "warmth", "I", false)
  | 5 => ("ColdHolds$Texts", "since", "I", false)
  | 6 => ("ColdHolds$Texts", "kind", "I", false)
  | 7 => ("ColdHolds$Texts", "rows", "[[I", true)
  | 8 => ("ColdHolds$Texts", "length", "[I", true)
  | 9 => ("ColdHolds$Texts", "sign", "[I", true)
  | 10 => ("ColdHolds$Texts", "sums", "[J", true)
  | 11 => ("ColdHolds$Texts", "products", "[J", true)
  | 12 => ("ColdHolds$Texts", "awaits", "I", false)
  | 13 => ("ColdHolds$Texts", "depth", "I", false)
  | _ => ("ColdHolds$Texts", "signAt", "I", false)
def tyX10 : Nat → FieldType := fun k => match k with
  | 0 => .array .int
  | 1 => .int
  | 2 => .int
  | 3 => .int
  | 4 => .int
  | 5 => .int
  | 6 => .int
  | 7 => .array (.array .int)
  | 8 => .array .int
  | 9 => .array .int
  | 10 => .array .long
  | 11 => .array .long
  | 12 => .int
  | 13 => .int
  | _ => .int
abbrev wsX100 : List Cond := u_ws RX10 TX10 15
theorem nmX10 : ∀ a, a < 15 → ∀ b, b < 15 → a ≠ b → (TX10 a).2.1 ≠ (TX10 b).2.1 := by decide +kernel
theorem tyX10_ok : ∀ k, k < 15 → parseFieldDescriptor (TX10 k).2.2.1 = some (tyX10 k) := by decide +kernel
abbrev cX10_init : ByteArray := prog_12_method_1_code
def yX10_init : MethodName := ⟨RX10, "<init>", "()V"⟩
abbrev cX10_lettersIn : ByteArray := prog_12_method_2_code
def yX10_lettersIn : MethodName := ⟨RX10, "lettersIn", "(J)I"⟩
abbrev cX10_code : ByteArray := prog_12_method_3_code
def yX10_code : MethodName := ⟨RX10, "code", "(JI)I"⟩
abbrev cX10_append : ByteArray := prog_12_method_4_code
def yX10_append : MethodName := ⟨RX10, "append", "(JI)I"⟩
abbrev cX10_scan : ByteArray := prog_12_method_5_code
def yX10_scan : MethodName := ⟨RX10, "scan", "()I"⟩
abbrev cX10_after : ByteArray := prog_12_method_6_code
def yX10_after : MethodName := ⟨RX10, "after", "(II)I"⟩
abbrev cX10_intoFactor : ByteArray := prog_12_method_7_code
def yX10_intoFactor : MethodName := ⟨RX10, "intoFactor", "(I)I"⟩
abbrev cX10_behindFactor : ByteArray := prog_12_method_8_code
def yX10_behindFactor : MethodName := ⟨RX10, "behindFactor", "(II)I"⟩
abbrev cX10_isDigit : ByteArray := prog_12_method_9_code
def yX10_isDigit : MethodName := ⟨RX10, "isDigit", "(I)Z"⟩
abbrev cX10_letterNumber : ByteArray := prog_12_method_10_code
def yX10_letterNumber : MethodName := ⟨RX10, "letterNumber", "(I)I"⟩
abbrev cX10_isWhole : ByteArray := prog_12_method_11_code
def yX10_isWhole : MethodName := ⟨RX10, "isWhole", "()Z"⟩
abbrev cX10_keepPage : ByteArray := prog_12_method_12_code
def yX10_keepPage : MethodName := ⟨RX10, "keepPage", "()I"⟩
abbrev cX10_lastOf : ByteArray := prog_12_method_13_code
def yX10_lastOf : MethodName := ⟨RX10, "lastOf", "(I)I"⟩
abbrev cX10_holds : ByteArray := prog_12_method_14_code
def yX10_holds : MethodName := ⟨RX10, "holds", "(IJJ)Z"⟩
abbrev cX10_valueOf : ByteArray := prog_12_method_15_code
def yX10_valueOf : MethodName := ⟨RX10, "valueOf", "(II)J"⟩
abbrev cX10_value : ByteArray := prog_12_method_16_code
def yX10_value : MethodName := ⟨RX10, "value", "([III)J"⟩
abbrev cX10_begin : ByteArray := prog_12_method_17_code
def yX10_begin : MethodName := ⟨RX10, "begin", "(I)V"⟩
abbrev cX10_named : ByteArray := prog_12_method_18_code
def yX10_named : MethodName := ⟨RX10, "named", "(I)I"⟩
def RX11 : String := "ColdHolds"
def TX11 : u_T := fun k => match k with
  | 0 => ("ColdHolds", "hold", "LColdHolds$Hold;", true)
  | 1 => ("ColdHolds", "air", "LColdHolds$Air;", true)
  | 2 => ("ColdHolds", "trial", "LColdHolds$Air;", true)
  | 3 => ("ColdHolds", "lots", "LColdHolds$Lots;", true)
  | 4 => ("ColdHolds", "texts", "LColdHolds$Texts;", true)
  | 5 => ("ColdHolds", "readings", "LColdHolds$Readings;", true)
  | 6 => ("ColdHolds", "stacks", "LColdHolds$Stacks;", true)
  | 7 => ("ColdHolds", "drive", "LColdHolds$Drive;", true)
  | 8 => ("ColdHolds", "market", "LColdHolds$Market;", true)
  | 9 => ("ColdHolds", "farms", "LColdHolds$Farms;", true)
  | 10 => ("ColdHolds", "ring", "LColdHolds$Ring;", true)
  | _ => ("ColdHolds", "choices", "LColdHolds$Choices;", true)
def tyX11 : Nat → FieldType := fun k => match k with
  | 0 => .object "ColdHolds$Hold"
  | 1 => .object "ColdHolds$Air"
  | 2 => .object "ColdHolds$Air"
  | 3 => .object "ColdHolds$Lots"
  | 4 => .object "ColdHolds$Texts"
  | 5 => .object "ColdHolds$Readings"
  | 6 => .object "ColdHolds$Stacks"
  | 7 => .object "ColdHolds$Drive"
  | 8 => .object "ColdHolds$Market"
  | 9 => .object "ColdHolds$Farms"
  | 10 => .object "ColdHolds$Ring"
  | _ => .object "ColdHolds$Choices"
abbrev wsX110 : List Cond := u_ws RX11 TX11 12
theorem nmX11 : ∀ a, a < 12 → ∀ b, b < 12 → a ≠ b → (TX11 a).2.1 ≠ (TX11 b).2.1 := by decide +kernel
theorem tyX11_ok : ∀ k, k < 12 → parseFieldDescriptor (TX11 k).2.2.1 = some (tyX11 k) := by decide +kernel
abbrev cX11_init : ByteArray := prog_1_method_1_code
def yX11_init : MethodName := ⟨RX11, "<init>", "()V"⟩
abbrev cX11_within : ByteArray := prog_1_method_2_code
def yX11_within : MethodName := ⟨RX11, "within", "(III)Z"⟩
abbrev cX11_isCell : ByteArray := prog_1_method_3_code
def yX11_isCell : MethodName := ⟨RX11, "isCell", "(I)Z"⟩
abbrev cX11_isWarmth : ByteArray := prog_1_method_4_code
def yX11_isWarmth : MethodName := ⟨RX11, "isWarmth", "(I)Z"⟩
abbrev cX11_change : ByteArray := prog_1_method_5_code
def yX11_change : MethodName := ⟨RX11, "change", "([III)I"⟩
abbrev cX11_mix : ByteArray := prog_1_method_6_code
def yX11_mix : MethodName := ⟨RX11, "mix", "(JJ)J"⟩
abbrev cX11_mixRow : ByteArray := prog_1_method_7_code
def yX11_mixRow : MethodName := ⟨RX11, "mixRow", "(J[II)J"⟩
abbrev cX11_leg : ByteArray := prog_1_method_8_code
def yX11_leg : MethodName := ⟨RX11, "leg", "(II)I"⟩
abbrev cX11_warm : ByteArray := prog_1_method_9_code
def yX11_warm : MethodName := ⟨RX11, "warm", "(II)I"⟩
abbrev cX11_warmth : ByteArray := prog_1_method_10_code
def yX11_warmth : MethodName := ⟨RX11, "warmth", "(I)I"⟩
abbrev cX11_outer : ByteArray := prog_1_method_11_code
def yX11_outer : MethodName := ⟨RX11, "outer", "(II)I"⟩
abbrev cX11_pipe : ByteArray := prog_1_method_12_code
def yX11_pipe : MethodName := ⟨RX11, "pipe", "(IZ)I"⟩
abbrev cX11_engine : ByteArray := prog_1_method_13_code
def yX11_engine : MethodName := ⟨RX11, "engine", "(II)I"⟩
abbrev cX11_breaks : ByteArray := prog_1_method_14_code
def yX11_breaks : MethodName := ⟨RX11, "breaks", "(I)I"⟩
abbrev cX11_sea : ByteArray := prog_1_method_15_code
def yX11_sea : MethodName := ⟨RX11, "sea", "(I)I"⟩
abbrev cX11_hours : ByteArray := prog_1_method_16_code
def yX11_hours : MethodName := ⟨RX11, "hours", "(I)I"⟩
abbrev cX11_first : ByteArray := prog_1_method_17_code
def yX11_first : MethodName := ⟨RX11, "first", "(II)I"⟩
abbrev cX11_lot : ByteArray := prog_1_method_18_code
def yX11_lot : MethodName := ⟨RX11, "lot", "(II)I"⟩
abbrev cX11_lay : ByteArray := prog_1_method_19_code
def yX11_lay : MethodName := ⟨RX11, "lay", "(II)I"⟩
abbrev cX11_about : ByteArray := prog_1_method_20_code
def yX11_about : MethodName := ⟨RX11, "about", "(II)I"⟩
abbrev cX11_as : ByteArray := prog_1_method_21_code
def yX11_as : MethodName := ⟨RX11, "as", "(II)I"⟩
abbrev cX11_letters : ByteArray := prog_1_method_22_code
def yX11_letters : MethodName := ⟨RX11, "letters", "(J)I"⟩
abbrev cX11_blank : ByteArray := prog_1_method_23_code
def yX11_blank : MethodName := ⟨RX11, "blank", "()I"⟩
abbrev cX11_fault : ByteArray := prog_1_method_24_code
def yX11_fault : MethodName := ⟨RX11, "fault", "()I"⟩
abbrev cX11_text : ByteArray := prog_1_method_25_code
def yX11_text : MethodName := ⟨RX11, "text", "()I"⟩
abbrev cX11_says : ByteArray := prog_1_method_26_code
def yX11_says : MethodName := ⟨RX11, "says", "(II)I"⟩
abbrev cX11_sum : ByteArray := prog_1_method_27_code
def yX11_sum : MethodName := ⟨RX11, "sum", "(III)J"⟩
abbrev cX11_sumOf : ByteArray := prog_1_method_28_code
def yX11_sumOf : MethodName := ⟨RX11, "sumOf", "(III)J"⟩
abbrev cX11_lost : ByteArray := prog_1_method_29_code
def yX11_lost : MethodName := ⟨RX11, "lost", "(II)I"⟩
abbrev cX11_way : ByteArray := prog_1_method_30_code
def yX11_way : MethodName := ⟨RX11, "way", "(I)I"⟩
abbrev cX11_lostGoing : ByteArray := prog_1_method_31_code
def yX11_lostGoing : MethodName := ⟨RX11, "lostGoing", "(II)I"⟩
abbrev cX11_reading : ByteArray := prog_1_method_32_code
def yX11_reading : MethodName := ⟨RX11, "reading", "(II)I"⟩
abbrev cX11_rate : ByteArray := prog_1_method_33_code
def yX11_rate : MethodName := ⟨RX11, "rate", "(I)I"⟩
abbrev cX11_could : ByteArray := prog_1_method_34_code
def yX11_could : MethodName := ⟨RX11, "could", "(II)I"⟩
abbrev cX11_was : ByteArray := prog_1_method_35_code
def yX11_was : MethodName := ⟨RX11, "was", "(III)I"⟩
abbrev cX11_arrive : ByteArray := prog_1_method_36_code
def yX11_arrive : MethodName := ⟨RX11, "arrive", "(I)I"⟩
abbrev cX11_laid : ByteArray := prog_1_method_37_code
def yX11_laid : MethodName := ⟨RX11, "laid", "(III)I"⟩
abbrev cX11_flock : ByteArray := prog_1_method_38_code
def yX11_flock : MethodName := ⟨RX11, "flock", "(II)I"⟩
abbrev cX11_works : ByteArray := prog_1_method_39_code
def yX11_works : MethodName := ⟨RX11, "works", "(II)I"⟩
abbrev cX11_days : ByteArray := prog_1_method_40_code
def yX11_days : MethodName := ⟨RX11, "days", "(III)I"⟩
abbrev cX11_loss : ByteArray := prog_1_method_41_code
def yX11_loss : MethodName := ⟨RX11, "loss", "(I)I"⟩
abbrev cX11_driven : ByteArray := prog_1_method_42_code
def yX11_driven : MethodName := ⟨RX11, "driven", "(I)I"⟩
abbrev cX11_market : ByteArray := prog_1_method_43_code
def yX11_market : MethodName := ⟨RX11, "market", "(II)I"⟩
abbrev cX11_seller : ByteArray := prog_1_method_44_code
def yX11_seller : MethodName := ⟨RX11, "seller", "(II)I"⟩
abbrev cX11_week : ByteArray := prog_1_method_45_code
def yX11_week : MethodName := ⟨RX11, "week", "(II)I"⟩
abbrev cX11_turns : ByteArray := prog_1_method_46_code
def yX11_turns : MethodName := ⟨RX11, "turns", "(I)I"⟩
abbrev cX11_farm : ByteArray := prog_1_method_47_code
def yX11_farm : MethodName := ⟨RX11, "farm", "(II)I"⟩
abbrev cX11_owe : ByteArray := prog_1_method_48_code
def yX11_owe : MethodName := ⟨RX11, "owe", "(III)I"⟩
abbrev cX11_falls : ByteArray := prog_1_method_49_code
def yX11_falls : MethodName := ⟨RX11, "falls", "(II)I"⟩
abbrev cX11_safe : ByteArray := prog_1_method_50_code
def yX11_safe : MethodName := ⟨RX11, "safe", "(I)I"⟩
abbrev cX11_line : ByteArray := prog_1_method_51_code
def yX11_line : MethodName := ⟨RX11, "line", "(II)I"⟩
abbrev cX11_ring : ByteArray := prog_1_method_52_code
def yX11_ring : MethodName := ⟨RX11, "ring", "(II)I"⟩
abbrev cX11_earns : ByteArray := prog_1_method_53_code
def yX11_earns : MethodName := ⟨RX11, "earns", "(II)J"⟩
abbrev cX11_stable : ByteArray := prog_1_method_54_code
def yX11_stable : MethodName := ⟨RX11, "stable", "(I)I"⟩
abbrev cX11_choice : ByteArray := prog_1_method_55_code
def yX11_choice : MethodName := ⟨RX11, "choice", "(I)I"⟩
abbrev cX11_gives : ByteArray := prog_1_method_56_code
def yX11_gives : MethodName := ⟨RX11, "gives", "(III)I"⟩
abbrev cX11_plan : ByteArray := prog_1_method_57_code
def yX11_plan : MethodName := ⟨RX11, "plan", "(III)I"⟩
abbrev cX11_count : ByteArray := prog_1_method_58_code
def yX11_count : MethodName := ⟨RX11, "count", "(I)I"⟩
abbrev cX11_howMany : ByteArray := prog_1_method_59_code
def yX11_howMany : MethodName := ⟨RX11, "howMany", "(I)I"⟩
abbrev cX11_digest : ByteArray := prog_1_method_60_code
def yX11_digest : MethodName := ⟨RX11, "digest", "()J"⟩
abbrev cX11_mixLots : ByteArray := prog_1_method_61_code
def yX11_mixLots : MethodName := ⟨RX11, "mixLots", "(J)J"⟩
abbrev cX11_mixSums : ByteArray := prog_1_method_62_code
def yX11_mixSums : MethodName := ⟨RX11, "mixSums", "(J)J"⟩
def RX12 : String := "ColdHoldsModel"
def TX12 : u_T := fun k => match k with
  | 0 => ("ColdHoldsModel", "warmths", "[I", true)
  | 1 => ("ColdHoldsModel", "outers", "[I", true)
  | 2 => ("ColdHoldsModel", "pipes", "[Z", true)
  | 3 => ("ColdHoldsModel", "leak", "I", false)
  | 4 => ("ColdHoldsModel", "cold", "I", false)
  | 5 => ("ColdHoldsModel", "burn", "I", false)
  | 6 => ("ColdHoldsModel", "coal", "I", false)
  | 7 => ("ColdHoldsModel", "hourNow", "I", false)
  | 8 => ("ColdHoldsModel", "brokenFrom", "I", false)
  | 9 => ("ColdHoldsModel", "legs", "I", false)
  | 10 => ("ColdHoldsModel", "legHours", "[I", true)
  | 11 => ("ColdHoldsModel", "legSea", "[I", true)
  | 12 => ("ColdHoldsModel", "lots", "I", false)
  | 13 => ("ColdHoldsModel", "kinds", "[I", true)
  | 14 => ("ColdHoldsModel", "cellOf", "[I", true)
  | 15 => ("ColdHoldsModel", "rots", "[I", true)
  | 16 => ("ColdHoldsModel", "laidIn", "[I", true)
  | 17 => ("ColdHoldsModel", "cameIn", "[I", true)
  | 18 => ("ColdHoldsModel", "pageLength", "I", false)
  | 19 => ("ColdHoldsModel", "page", "[B", true)
  | 20 => ("ColdHoldsModel", "texts", "I", false)
  | 21 => ("ColdHoldsModel", "textOf", "[B", true)
  | 22 => ("ColdHoldsModel", "textSize", "[I", true)
  | 23 => ("ColdHoldsModel", "readings", "I", false)
  | 24 => ("ColdHoldsModel", "readHour", "[I", true)
  | 25 => ("ColdHoldsModel", "readNumber", "[I", true)
  | 26 => ("ColdHoldsModel", "rateNow", "I", false)
  | 27 => ("ColdHoldsModel", "arrivals", "I", false)
  | 28 => ("ColdHoldsModel", "soldOn", "[I", true)
  | 29 => ("ColdHoldsModel", "flocks", "I", false)
  | 30 => ("ColdHoldsModel", "sheepOf", "[I", true)
  | 31 => ("ColdHoldsModel", "fatOf", "[I", true)
  | 32 => ("ColdHoldsModel", "daysOf", "[I", true)
  | 33 => ("ColdHoldsModel", "takesOf", "[I", true)
  | 34 => ("ColdHoldsModel", "lossNow", "I", false)
  | 35 => ("ColdHoldsModel", "base", "I", false)
  | 36 => ("ColdHoldsModel", "slope", "I", false)
  | 37 => ("ColdHoldsModel", "lag", "I", false)
  | 38 => ("ColdHoldsModel", "wayTime", "I", false)
  | 39 => ("ColdHoldsModel", "sellers", "I", false)
  | 40 => ("ColdHoldsModel", "sellerLots", "[I", true)
  | 41 => ("ColdHoldsModel", "limits", "[I", true)
  | 42 => ("ColdHoldsModel", "farms", "I", false)
  | 43 => ("ColdHoldsModel", "gains", "[I", true)
  | 44 => ("ColdHoldsModel", "owns", "[I", true)
  | 45 => ("ColdHoldsModel", "owes", "[I", true)
  | 46 => ("ColdHoldsModel", "lines", "I", false)
  | 47 => ("ColdHoldsModel", "shipsOf", "[I", true)
  | 48 => ("ColdHoldsModel", "lineCost", "[I", true)
  | 49 => ("ColdHoldsModel", "floor", "I", false)
  | 50 => ("ColdHoldsModel", "rise", "I", false)
  | 51 => ("ColdHoldsModel", "quota", "I", false)
  | 52 => ("ColdHoldsModel", "cutNow", "I", false)
  | 53 => ("ColdHoldsModel", "choices", "I", false)
  | 54 => ("ColdHoldsModel", "choiceCost", "[I", true)
  | 55 => ("ColdHoldsModel", "givesOf", "[I", true)
  | 56 => ("ColdHoldsModel", "now", "[I", true)
  | 57 => ("ColdHoldsModel", "ahead", "[I", true)
  | 58 => ("ColdHoldsModel", "rotNow", "[I", true)
  | 59 => ("ColdHoldsModel", "coalNow", "I", false)
  | 60 => ("ColdHoldsModel", "hourThen", "I", false)
  | 61 => ("ColdHoldsModel", "brokenThen", "I", false)
  | 62 => ("ColdHoldsModel", "faultAt", "I", false)
  | 63 => ("ColdHoldsModel", "isWhole", "Z", false)
  | 64 => ("ColdHoldsModel", "sums", "[J", true)
  | 65 => ("ColdHoldsModel", "products", "[J", true)
  | 66 => ("ColdHoldsModel", "deep", "I", false)
  | 67 => ("ColdHoldsModel", "stackOf", "[I", true)
  | 68 => ("ColdHoldsModel", "highOf", "[I", true)
  | 69 => ("ColdHoldsModel", "dugBy", "[I", true)
  | 70 => ("ColdHoldsModel", "leastDug", "I", false)
  | 71 => ("ColdHoldsModel", "bestStack", "[I", true)
  | 72 => ("ColdHoldsModel", "bestWorks", "[I", true)
  | 73 => ("ColdHoldsModel", "taken", "[I", true)
  | 74 => ("ColdHoldsModel", "prices", "[I", true)
  | 75 => ("ColdHoldsModel", "shipped", "[I", true)
  | 76 => ("ColdHoldsModel", "rounds", "I", false)
  | _ => ("ColdHoldsModel", "h", "J", false)
def tyX12 : Nat → FieldType := fun k => match k with
  | 0 => .array .int
  | 1 => .array .int
  | 2 => .array .boolean
  | 3 => .int
  | 4 => .int
  | 5 => .int
  | 6 => .int
  | 7 => .int
  | 8 => .int
  | 9 => .int
  | 10 => .array .int
  | 11 => .array .int
  | 12 => .int
  | 13 => .array .int
  | 14 => .array .int
  | 15 => .array .int
  | 16 => .array .int
  | 17 => .array .int
  | 18 => .int
  | 19 => .array .byte
  | 20 => .int
  | 21 => .array .byte
  | 22 => .array .int
  | 23 => .int
  | 24 => .array .int
  | 25 => .array .int
  | 26 => .int
  | 27 => .int
  | 28 => .array .int
  | 29 => .int
  | 30 => .array .int
  | 31 => .array .int
  | 32 => .array .int
  | 33 => .array .int
  | 34 => .int
  | 35 => .int
  | 36 => .int
  | 37 => .int
  | 38 => .int
  | 39 => .int
  | 40 => .array .int
  | 41 => .array .int
  | 42 => .int
  | 43 => .array .int
  | 44 => .array .int
  | 45 => .array .int
  | 46 => .int
  | 47 => .array .int
  | 48 => .array .int
  | 49 => .int
  | 50 => .int
  | 51 => .int
  | 52 => .int
  | 53 => .int
  | 54 => .array .int
  | 55 => .array .int
  | 56 => .array .int
  | 57 => .array .int
  | 58 => .array .int
  | 59 => .int
  | 60 => .int
  | 61 => .int
  | 62 => .int
  | 63 => .boolean
  | 64 => .array .long
  | 65 => .array .long
  | 66 => .int
  | 67 => .array .int
  | 68 => .array .int
  | 69 => .array .int
  | 70 => .int
  | 71 => .array .int
  | 72 => .array .int
  | 73 => .array .int
  | 74 => .array .int
  | 75 => .array .int
  | 76 => .int
  | _ => .long
abbrev wsX120 : List Cond := u_ws RX12 TX12 78
theorem nmX12 : ∀ a, a < 78 → ∀ b, b < 78 → a ≠ b → (TX12 a).2.1 ≠ (TX12 b).2.1 := by decide +kernel
theorem tyX12_ok : ∀ k, k < 78 → parseFieldDescriptor (TX12 k).2.2.1 = some (tyX12 k) := by decide +kernel
abbrev cX12_init : ByteArray := prog_14_method_1_code
def yX12_init : MethodName := ⟨RX12, "<init>", "()V"⟩
abbrev cX12_in : ByteArray := prog_14_method_3_code
def yX12_in : MethodName := ⟨RX12, "in", "(III)Z"⟩
abbrev cX12_isCell : ByteArray := prog_14_method_4_code
def yX12_isCell : MethodName := ⟨RX12, "isCell", "(I)Z"⟩
abbrev cX12_floorBy : ByteArray := prog_14_method_5_code
def yX12_floorBy : MethodName := ⟨RX12, "floorBy", "(II)I"⟩
abbrev cX12_leg : ByteArray := prog_14_method_6_code
def yX12_leg : MethodName := ⟨RX12, "leg", "(II)I"⟩
abbrev cX12_warm : ByteArray := prog_14_method_7_code
def yX12_warm : MethodName := ⟨RX12, "warm", "(II)I"⟩
abbrev cX12_warmth : ByteArray := prog_14_method_8_code
def yX12_warmth : MethodName := ⟨RX12, "warmth", "(I)I"⟩
abbrev cX12_outer : ByteArray := prog_14_method_9_code
def yX12_outer : MethodName := ⟨RX12, "outer", "(II)I"⟩
abbrev cX12_pipe : ByteArray := prog_14_method_10_code
def yX12_pipe : MethodName := ⟨RX12, "pipe", "(IZ)I"⟩
abbrev cX12_engine : ByteArray := prog_14_method_11_code
def yX12_engine : MethodName := ⟨RX12, "engine", "(II)I"⟩
abbrev cX12_breaks : ByteArray := prog_14_method_12_code
def yX12_breaks : MethodName := ⟨RX12, "breaks", "(I)I"⟩
abbrev cX12_seaOf : ByteArray := prog_14_method_13_code
def yX12_seaOf : MethodName := ⟨RX12, "seaOf", "(I)I"⟩
abbrev cX12_sea : ByteArray := prog_14_method_14_code
def yX12_sea : MethodName := ⟨RX12, "sea", "(I)I"⟩
abbrev cX12_startAsNow : ByteArray := prog_14_method_15_code
def yX12_startAsNow : MethodName := ⟨RX12, "startAsNow", "()V"⟩
abbrev cX12_besides : ByteArray := prog_14_method_16_code
def yX12_besides : MethodName := ⟨RX12, "besides", "(I)I"⟩
abbrev cX12_anHour : ByteArray := prog_14_method_17_code
def yX12_anHour : MethodName := ⟨RX12, "anHour", "(I)Z"⟩
abbrev cX12_spoils : ByteArray := prog_14_method_18_code
def yX12_spoils : MethodName := ⟨RX12, "spoils", "(II)I"⟩
abbrev cX12_stateOf : ByteArray := prog_14_method_19_code
def yX12_stateOf : MethodName := ⟨RX12, "stateOf", "(I)I"⟩
abbrev cX12_hours : ByteArray := prog_14_method_20_code
def yX12_hours : MethodName := ⟨RX12, "hours", "(I)I"⟩
abbrev cX12_above : ByteArray := prog_14_method_21_code
def yX12_above : MethodName := ⟨RX12, "above", "(I)I"⟩
abbrev cX12_first : ByteArray := prog_14_method_22_code
def yX12_first : MethodName := ⟨RX12, "first", "(II)I"⟩
abbrev cX12_isLot : ByteArray := prog_14_method_23_code
def yX12_isLot : MethodName := ⟨RX12, "isLot", "(I)Z"⟩
abbrev cX12_lot : ByteArray := prog_14_method_24_code
def yX12_lot : MethodName := ⟨RX12, "lot", "(II)I"⟩
abbrev cX12_lay : ByteArray := prog_14_method_25_code
def yX12_lay : MethodName := ⟨RX12, "lay", "(II)I"⟩
abbrev cX12_worthOf : ByteArray := prog_14_method_26_code
def yX12_worthOf : MethodName := ⟨RX12, "worthOf", "(I)I"⟩
abbrev cX12_aboutOf : ByteArray := prog_14_method_27_code
def yX12_aboutOf : MethodName := ⟨RX12, "aboutOf", "(II)I"⟩
abbrev cX12_about : ByteArray := prog_14_method_28_code
def yX12_about : MethodName := ⟨RX12, "about", "(II)I"⟩
abbrev cX12_as : ByteArray := prog_14_method_29_code
def yX12_as : MethodName := ⟨RX12, "as", "(II)I"⟩
abbrev cX12_letters : ByteArray := prog_14_method_30_code
def yX12_letters : MethodName := ⟨RX12, "letters", "(J)I"⟩
abbrev cX12_blank : ByteArray := prog_14_method_31_code
def yX12_blank : MethodName := ⟨RX12, "blank", "()I"⟩
abbrev cX12_isMark : ByteArray := prog_14_method_32_code
def yX12_isMark : MethodName := ⟨RX12, "isMark", "(I)Z"⟩
abbrev cX12_readText : ByteArray := prog_14_method_33_code
def yX12_readText : MethodName := ⟨RX12, "readText", "()V"⟩
abbrev cX12_fault : ByteArray := prog_14_method_34_code
def yX12_fault : MethodName := ⟨RX12, "fault", "()I"⟩
abbrev cX12_text : ByteArray := prog_14_method_35_code
def yX12_text : MethodName := ⟨RX12, "text", "()I"⟩
abbrev cX12_openSum : ByteArray := prog_14_method_36_code
def yX12_openSum : MethodName := ⟨RX12, "openSum", "()V"⟩
abbrev cX12_closeSum : ByteArray := prog_14_method_37_code
def yX12_closeSum : MethodName := ⟨RX12, "closeSum", "()J"⟩
abbrev cX12_sumFrom : ByteArray := prog_14_method_38_code
def yX12_sumFrom : MethodName := ⟨RX12, "sumFrom", "(III)J"⟩
abbrev cX12_markOf : ByteArray := prog_14_method_39_code
def yX12_markOf : MethodName := ⟨RX12, "markOf", "(I)I"⟩
abbrev cX12_sumOf : ByteArray := prog_14_method_40_code
def yX12_sumOf : MethodName := ⟨RX12, "sumOf", "(III)J"⟩
abbrev cX12_says : ByteArray := prog_14_method_41_code
def yX12_says : MethodName := ⟨RX12, "says", "(II)I"⟩
abbrev cX12_sum : ByteArray := prog_14_method_42_code
def yX12_sum : MethodName := ⟨RX12, "sum", "(III)J"⟩
abbrev cX12_lostBy : ByteArray := prog_14_method_43_code
def yX12_lostBy : MethodName := ⟨RX12, "lostBy", "(II)I"⟩
abbrev cX12_lost : ByteArray := prog_14_method_44_code
def yX12_lost : MethodName := ⟨RX12, "lost", "(II)I"⟩
abbrev cX12_way : ByteArray := prog_14_method_45_code
def yX12_way : MethodName := ⟨RX12, "way", "(I)I"⟩
abbrev cX12_reading : ByteArray := prog_14_method_46_code
def yX12_reading : MethodName := ⟨RX12, "reading", "(II)I"⟩
abbrev cX12_rate : ByteArray := prog_14_method_47_code
def yX12_rate : MethodName := ⟨RX12, "rate", "(I)I"⟩
abbrev cX12_reach : ByteArray := prog_14_method_48_code
def yX12_reach : MethodName := ⟨RX12, "reach", "(II)I"⟩
abbrev cX12_couldBe : ByteArray := prog_14_method_49_code
def yX12_couldBe : MethodName := ⟨RX12, "couldBe", "(II)I"⟩
abbrev cX12_goTogether : ByteArray := prog_14_method_50_code
def yX12_goTogether : MethodName := ⟨RX12, "goTogether", "()Z"⟩
abbrev cX12_could : ByteArray := prog_14_method_51_code
def yX12_could : MethodName := ⟨RX12, "could", "(II)I"⟩
abbrev cX12_was : ByteArray := prog_14_method_52_code
def yX12_was : MethodName := ⟨RX12, "was", "(III)I"⟩
abbrev cX12_arrive : ByteArray := prog_14_method_53_code
def yX12_arrive : MethodName := ⟨RX12, "arrive", "(I)I"⟩
abbrev cX12_ones : ByteArray := prog_14_method_54_code
def yX12_ones : MethodName := ⟨RX12, "ones", "(I)I"⟩
abbrev cX12_dugWith : ByteArray := prog_14_method_55_code
def yX12_dugWith : MethodName := ⟨RX12, "dugWith", "(II)I"⟩
abbrev cX12_seekLaid : ByteArray := prog_14_method_56_code
def yX12_seekLaid : MethodName := ⟨RX12, "seekLaid", "(II)V"⟩
abbrev cX12_laid : ByteArray := prog_14_method_57_code
def yX12_laid : MethodName := ⟨RX12, "laid", "(III)I"⟩
abbrev cX12_isFlock : ByteArray := prog_14_method_58_code
def yX12_isFlock : MethodName := ⟨RX12, "isFlock", "(I)Z"⟩
abbrev cX12_flock : ByteArray := prog_14_method_59_code
def yX12_flock : MethodName := ⟨RX12, "flock", "(II)I"⟩
abbrev cX12_works : ByteArray := prog_14_method_60_code
def yX12_works : MethodName := ⟨RX12, "works", "(II)I"⟩
abbrev cX12_days : ByteArray := prog_14_method_61_code
def yX12_days : MethodName := ⟨RX12, "days", "(III)I"⟩
abbrev cX12_loss : ByteArray := prog_14_method_62_code
def yX12_loss : MethodName := ⟨RX12, "loss", "(I)I"⟩
abbrev cX12_comesOf : ByteArray := prog_14_method_63_code
def yX12_comesOf : MethodName := ⟨RX12, "comesOf", "(II)I"⟩
abbrev cX12_seekDriven : ByteArray := prog_14_method_64_code
def yX12_seekDriven : MethodName := ⟨RX12, "seekDriven", "()I"⟩
abbrev cX12_driven : ByteArray := prog_14_method_65_code
def yX12_driven : MethodName := ⟨RX12, "driven", "(I)I"⟩
abbrev cX12_market : ByteArray := prog_14_method_66_code
def yX12_market : MethodName := ⟨RX12, "market", "(II)I"⟩
abbrev cX12_seller : ByteArray := prog_14_method_67_code
def yX12_seller : MethodName := ⟨RX12, "seller", "(II)I"⟩
abbrev cX12_priceAt : ByteArray := prog_14_method_68_code
def yX12_priceAt : MethodName := ⟨RX12, "priceAt", "(I)I"⟩
abbrev cX12_shippedAt : ByteArray := prog_14_method_69_code
def yX12_shippedAt : MethodName := ⟨RX12, "shippedAt", "(I)I"⟩
abbrev cX12_goWeeks : ByteArray := prog_14_method_70_code
def yX12_goWeeks : MethodName := ⟨RX12, "goWeeks", "()V"⟩
abbrev cX12_week : ByteArray := prog_14_method_71_code
def yX12_week : MethodName := ⟨RX12, "week", "(II)I"⟩
abbrev cX12_isAgain : ByteArray := prog_14_method_72_code
def yX12_isAgain : MethodName := ⟨RX12, "isAgain", "(II)Z"⟩
abbrev cX12_turns : ByteArray := prog_14_method_73_code
def yX12_turns : MethodName := ⟨RX12, "turns", "(I)I"⟩
abbrev cX12_farm : ByteArray := prog_14_method_74_code
def yX12_farm : MethodName := ⟨RX12, "farm", "(II)I"⟩
abbrev cX12_owe : ByteArray := prog_14_method_75_code
def yX12_owe : MethodName := ⟨RX12, "owe", "(III)I"⟩
abbrev cX12_fallenAt : ByteArray := prog_14_method_76_code
def yX12_fallenAt : MethodName := ⟨RX12, "fallenAt", "(I)I"⟩
abbrev cX12_falls : ByteArray := prog_14_method_77_code
def yX12_falls : MethodName := ⟨RX12, "falls", "(II)I"⟩
abbrev cX12_safe : ByteArray := prog_14_method_78_code
def yX12_safe : MethodName := ⟨RX12, "safe", "(I)I"⟩
abbrev cX12_line : ByteArray := prog_14_method_79_code
def yX12_line : MethodName := ⟨RX12, "line", "(II)I"⟩
abbrev cX12_ring : ByteArray := prog_14_method_80_code
def yX12_ring : MethodName := ⟨RX12, "ring", "(II)I"⟩
abbrev cX12_shipsIn : ByteArray := prog_14_method_81_code
def yX12_shipsIn : MethodName := ⟨RX12, "shipsIn", "(I)I"⟩
abbrev cX12_earnsOf : ByteArray := prog_14_method_82_code
def yX12_earnsOf : MethodName := ⟨RX12, "earnsOf", "(II)J"⟩
abbrev cX12_earns : ByteArray := prog_14_method_83_code
def yX12_earns : MethodName := ⟨RX12, "earns", "(II)J"⟩
abbrev cX12_isStable : ByteArray := prog_14_method_84_code
def yX12_isStable : MethodName := ⟨RX12, "isStable", "(I)Z"⟩
abbrev cX12_stable : ByteArray := prog_14_method_85_code
def yX12_stable : MethodName := ⟨RX12, "stable", "(I)I"⟩
abbrev cX12_choice : ByteArray := prog_14_method_86_code
def yX12_choice : MethodName := ⟨RX12, "choice", "(I)I"⟩
abbrev cX12_gives : ByteArray := prog_14_method_87_code
def yX12_gives : MethodName := ⟨RX12, "gives", "(III)I"⟩
abbrev cX12_worstOf : ByteArray := prog_14_method_88_code
def yX12_worstOf : MethodName := ⟨RX12, "worstOf", "(II)I"⟩
abbrev cX12_costOf : ByteArray := prog_14_method_89_code
def yX12_costOf : MethodName := ⟨RX12, "costOf", "(I)I"⟩
abbrev cX12_plan : ByteArray := prog_14_method_90_code
def yX12_plan : MethodName := ⟨RX12, "plan", "(III)I"⟩
abbrev cX12_countOf : ByteArray := prog_14_method_91_code
def yX12_countOf : MethodName := ⟨RX12, "countOf", "(I)I"⟩
abbrev cX12_count : ByteArray := prog_14_method_92_code
def yX12_count : MethodName := ⟨RX12, "count", "(I)I"⟩
abbrev cX12_mix : ByteArray := prog_14_method_93_code
def yX12_mix : MethodName := ⟨RX12, "mix", "(J)V"⟩
abbrev cX12_mixHold : ByteArray := prog_14_method_94_code
def yX12_mixHold : MethodName := ⟨RX12, "mixHold", "()V"⟩
abbrev cX12_mixLand : ByteArray := prog_14_method_95_code
def yX12_mixLand : MethodName := ⟨RX12, "mixLand", "()V"⟩
abbrev cX12_digest : ByteArray := prog_14_method_96_code
def yX12_digest : MethodName := ⟨RX12, "digest", "()J"⟩
def RJ6 : String := "java/lang/Integer"
abbrev cJ6_bitCount_0f7a4 : ByteArray := prog_15_method_49_code
def yJ6_bitCount_0f7a4 : MethodName := ⟨RJ6, "bitCount", "(I)I"⟩
def RJ9 : String := "java/lang/Math"
abbrev cJ9_floorDiv_7cf53 : ByteArray := prog_16_method_47_code
def yJ9_floorDiv_7cf53 : MethodName := ⟨RJ9, "floorDiv", "(II)I"⟩
abbrev cJ9_abs_0f7a4 : ByteArray := prog_16_method_59_code
def yJ9_abs_0f7a4 : MethodName := ⟨RJ9, "abs", "(I)I"⟩
abbrev cJ9_max_7cf53 : ByteArray := prog_16_method_65_code
def yJ9_max_7cf53 : MethodName := ⟨RJ9, "max", "(II)I"⟩
abbrev cJ9_min_7cf53 : ByteArray := prog_16_method_69_code
def yJ9_min_7cf53 : MethodName := ⟨RJ9, "min", "(II)I"⟩
def RJ10 : String := "java/lang/System"
def RJ7 : String := "java/util/Arrays"
abbrev cJ7_fill_53178 : ByteArray := prog_18_method_103_code
def yJ7_fill_53178 : MethodName := ⟨RJ7, "fill", "([II)V"⟩
def RL : String := "ColdHoldsLaw"
abbrev cL_law : ByteArray := code
def yL_law : MethodName := ⟨RL, "law", "([I)Z"⟩
abbrev vwCl : List vw_C := [(RX0, TX0, 4), (RX1, TX1, 3), (RX2, TX2, 11), (RX3, TX3, 5), (RX4, TX4, 8), (RX5, TX5, 5), (RX6, TX6, 6), (RX7, TX7, 4), (RX8, TX8, 4), (RX9, TX9, 8), (RX10, TX10, 15), (RX11, TX11, 12), (RX12, TX12, 78)]
/-- words of one list among another's, by their places -/
theorem mm_in {big : List Cond} (ws : List Cond) (ps : List Nat) (hp : ws = ps.filterMap (fun i => big[i]?)) : ∀ w ∈ ws, w ∈ big := by
  intro w hw
  rw [hp] at hw
  obtain ⟨i, -, hi⟩ := List.mem_filterMap.mp hw
  exact List.mem_of_getElem? hi
theorem inX0 : ∀ w ∈ wsX00, w ∈ lw_tbl := mm_in wsX00 [147, 149, 151, 153] (by decide +kernel)
theorem inX1 : ∀ w ∈ wsX10, w ∈ lw_tbl := mm_in wsX10 [433, 435, 437] (by decide +kernel)
theorem inX2 : ∀ w ∈ wsX20, w ∈ lw_tbl := mm_in wsX20 [324, 326, 328, 330, 332, 334, 336, 338, 340, 342, 344] (by decide +kernel)
theorem inX3 : ∀ w ∈ wsX30, w ∈ lw_tbl := mm_in wsX30 [389, 391, 393, 395, 397] (by decide +kernel)
theorem inX4 : ∀ w ∈ wsX40, w ∈ lw_tbl := mm_in wsX40 [113, 115, 117, 119, 121, 123, 125, 127] (by decide +kernel)
theorem inX5 : ∀ w ∈ wsX50, w ∈ lw_tbl := mm_in wsX50 [173, 175, 177, 179, 181] (by decide +kernel)
theorem inX6 : ∀ w ∈ wsX60, w ∈ lw_tbl := mm_in wsX60 [361, 363, 365, 367, 369, 371] (by decide +kernel)
theorem inX7 : ∀ w ∈ wsX70, w ∈ lw_tbl := mm_in wsX70 [257, 259, 261, 263] (by decide +kernel)
theorem inX8 : ∀ w ∈ wsX80, w ∈ lw_tbl := mm_in wsX80 [412, 414, 416, 418] (by decide +kernel)
theorem inX9 : ∀ w ∈ wsX90, w ∈ lw_tbl := mm_in wsX90 [283, 285, 287, 289, 291, 293, 295, 297] (by decide +kernel)
theorem inX10 : ∀ w ∈ wsX100, w ∈ lw_tbl := mm_in wsX100 [213, 215, 217, 219, 221, 223, 225, 227, 229, 231, 233, 235, 237, 239, 241] (by decide +kernel)
theorem inX11 : ∀ w ∈ wsX110, w ∈ lw_tbl := mm_in wsX110 [452, 454, 456, 458, 460, 462, 464, 466, 468, 470, 472, 474] (by decide +kernel)
theorem inX12 : ∀ w ∈ wsX120, w ∈ lw_tbl := mm_in wsX120 [1224, 1226, 1228, 1230, 1232, 1234, 1236, 1238, 1240, 1242, 1244, 1246, 1248, 1250, 1252, 1254, 1256, 1258, 1260, 1262, 1264, 1266, 1268, 1270, 1272, 1274, 1276, 1278, 1280, 1282, 1284, 1286, 1288, 1290, 1292, 1294, 1296, 1298, 1300, 1302, 1304, 1306, 1308, 1310, 1312, 1314, 1316, 1318, 1320, 1322, 1324, 1326, 1328, 1330, 1332, 1334, 1336, 1338, 1340, 1342, 1344, 1346, 1348, 1350, 1352, 1354, 1356, 1358, 1360, 1362, 1364, 1366, 1368, 1370, 1372, 1374, 1376, 1378] (by decide +kernel)
end
section
/-! THE SMALL MACHINE: cells by their number, one instruction as a function, a method as a run. Later parts tie it to the machine itself, once for all methods. -/
/-- a cell: an object (its class's number, its fields), or an array (its kind: 0 int, 1 byte, 2 boolean, 3 long, 4 int[]; its places) -/
abbrev mC : Type := (Nat × List Value) ⊕ (Nat × (List Int32 ⊕ (List Int64 ⊕ List (Option Nat))))
abbrev mH : Type := List mC
/-- an instruction, its length, three numbers that it links to, an int, a long, a switch's pairs -/
abbrev mI : Type := Instr × Nat × Nat × Nat × Nat × Int32 × Int64 × List (Int32 × Nat)
/-- behind an instruction: pc, locals, stack, cells, how many cells and slots are new -/
abbrev mN : Type := Nat × List (Option Value) × List Value × mH × Nat × Nat
abbrev mR : Type := mN ⊕ (Option Value ⊕ (Nat × List Value × List Value))
abbrev mO : Type := List (Option Value)
def mGo (pc : Nat) (lo : mO) (st : List Value) (h : mH) : Option mR := some (.inl (pc, lo, st, h, 0, 0))
/-- a local is stored: a long that it cuts is lost -/
def mClr (lo : mO) (i : Nat) : mO := match i with
  | 0 => lo
  | j + 1 => match lo[j]? with
    | some (some v) => bif Nat.beq v.category 2 then lo.set j none else lo
    | _ => lo
def mSt1 (lo : mO) (i : Nat) (v : Value) : mO := (mClr lo i).set i (some v)
def mSt2 (lo : mO) (i : Nat) (v : Value) : mO := ((mClr lo i).set i (some v)).set (i + 1) none
def mI2 (f : Int32 → Int32 → Int32) (pc : Nat) (lo : mO) (st : List Value) (h : mH) : Option mR := match st with
  | .int y :: .int x :: r => mGo pc lo (.int (f x y) :: r) h
  | _ => none
def mL2 (f : Int64 → Int64 → Int64) (pc : Nat) (lo : mO) (st : List Value) (h : mH) : Option mR := match st with
  | .long y :: .long x :: r => mGo pc lo (.long (f x y) :: r) h
  | _ => none
def mLI (f : Int64 → Int32 → Int64) (pc : Nat) (lo : mO) (st : List Value) (h : mH) : Option mR := match st with
  | .int y :: .long x :: r => mGo pc lo (.long (f x y) :: r) h
  | _ => none
def mCd (cd : ClassFile.Cond) (x y : Int32) (t f : Nat) : Nat := match cd with
  | .eq => if x = y then t else f
  | .ne => if ¬ x = y then t else f
  | .lt => if x < y then t else f
  | .ge => if y ≤ x then t else f
  | .gt => if y < x then t else f
  | .le => if x ≤ y then t else f
/-- a switch -/
def mSw (x : Int32) (sw : List (Int32 × Nat)) (d : Nat) : Nat := match sw with
  | [] => d
  | q :: r => if x = q.1 then q.2 else mSw x r d
def mLc (x y : Int64) : Int32 := if x < y then -1 else if x = y then 0 else 1
/-- an index is within -/
def mIn (i : Int32) (n : Nat) : Prop := ¬ (i < 0 ∨ n ≤ i.toNatClampNeg)
def mStat : List (List Int32) := [[0, 0, 1, 0], [20, 60, 9, 9999], [0, 0, 0, 1], [999, 99, 6, 6], [999, 99, 100, 999]]
def mBase : Nat := 1000000
/-- the numbers of a row: a cell's, or one of those that nobody writes -/
def mRow (ro : List (List Int32)) (h : mH) (k : Nat) : Option (List Int32) := bif Nat.blt k mBase then
    (match h[k]? with
    | some (.inr (0, .inl l)) => some l
    | _ => none)
  else ro[k - mBase]?
/-- a value may lie in a field: 0 int, 1 boolean, 2 long, 3 a reference -/
def mFit (k : Nat) (v : Value) : Prop := match k, v with
  | 0, .int _ => True
  | 1, .int x => x = 0 ∨ x = 1
  | 2, .long _ => True
  | 3, .ref _ => True
  | _, _ => False
def mLoad (lo : mO) (i : Nat) : Option Value := match lo[i]? with
  | some v => v
  | none => none
/-- what a new object of each class holds -/
def mNew (ci : Nat) : List Value := ((vwCl[ci]?).map fun q => (List.range q.2.2).map fun k => match parseFieldDescriptor (q.2.1 k).2.2.1 with
  | some .int => Value.int 0
  | some .boolean => Value.int 0
  | some .long => Value.long 0
  | _ => Value.null).getD []
/-- what a new array holds -/
def mArr (k n : Nat) : mC := bif Nat.beq k 3 then .inr (k, .inr (.inl (List.replicate n 0))) else .inr (k, .inl (List.replicate n 0))
def mCat (st : List Value) : Nat := match st with
  | [] => 0
  | v :: r => v.category + mCat r
/-- the receiver is an object of the class -/
def mRecv (h : mH) (ci : Nat) (a : List Value) : Bool := match a with
  | .ref k :: _ => match h[k]? with
    | some (.inl (c, _)) => Nat.beq c ci
    | _ => false
  | _ => false
def mStep1 (ro : List (List Int32)) (i : mI) (pc : Nat) (lo : mO) (st : List Value) (h : mH) : Option mR := match i with
  | (ins, len, a1, a2, a3, v32, v64, sw) => match ins with
    | .iload_n _ | .iload _ => match mLoad lo a1 with
      | some (.int x) => mGo (pc + len) lo (.int x :: st) h
      | _ => none
    | .aload_n _ => match mLoad lo a1 with
      | some (.ref x) => mGo (pc + len) lo (.ref x :: st) h
      | _ => none
    | .lload_n _ | .lload _ => match mLoad lo a1 with
      | some (.long x) => mGo (pc + len) lo (.long x :: st) h
      | _ => none
    | .istore_n _ | .istore _ => match st with
      | .int x :: r => bif Nat.blt a1 lo.length then mGo (pc + len) (mSt1 lo a1 (.int x)) r h else none
      | _ => none
    | .astore_n _ => match st with
      | .ref x :: r => bif Nat.blt a1 lo.length then mGo (pc + len) (mSt1 lo a1 (.ref x)) r h else none
      | _ => none
    | .lstore_n _ | .lstore _ => match st with
      | .long x :: r => bif Nat.blt (a1 + 1) lo.length then mGo (pc + len) (mSt2 lo a1 (.long x)) r h else none
      | _ => none
    | .iinc _ _ => match mLoad lo a1 with
      | some (.int x) => bif Nat.blt a1 lo.length then mGo (pc + len) (mSt1 lo a1 (.int (x + v32))) st h else none
      | _ => none
    | .iconst _ | .bipush _ | .sipush _ | .ldc _ | .ldc_w _ => mGo (pc + len) lo (.int v32 :: st) h
    | .lconst _ | .ldc2_w _ => mGo (pc + len) lo (.long v64 :: st) h
    | .dup => match st with
      | v :: r => bif Nat.beq v.category 1 then mGo (pc + len) lo (v :: v :: r) h else none
      | _ => none
    | .dup2 => match st with
      | v :: w :: r => bif Nat.beq v.category 1 && Nat.beq w.category 1 then mGo (pc + len) lo (v :: w :: v :: w :: r) h else none
      | _ => none
    | .pop => match st with
      | v :: r => bif Nat.beq v.category 1 then mGo (pc + len) lo r h else none
      | _ => none
    | .iadd => mI2 (fun x y => x + y) (pc + len) lo st h
    | .isub => mI2 (fun x y => x - y) (pc + len) lo st h
    | .imul => mI2 (fun x y => x * y) (pc + len) lo st h
    | .iand => mI2 (fun x y => x &&& y) (pc + len) lo st h
    | .ior => mI2 (fun x y => x ||| y) (pc + len) lo st h
    | .ixor => mI2 (fun x y => x ^^^ y) (pc + len) lo st h
    | .ishl => mI2 (fun x y => x <<< (y &&& 31)) (pc + len) lo st h
    | .ishr => mI2 (fun x y => x >>> (y &&& 31)) (pc + len) lo st h
    | .iushr => mI2 (fun x y => (x.toUInt32 >>> (y.toUInt32 &&& Int32.toUInt32 31)).toInt32) (pc + len) lo st h
    | .idiv => match st with
      | .int y :: .int x :: r => if y = 0 then none else mGo (pc + len) lo (.int (x / y) :: r) h
      | _ => none
    | .irem => match st with
      | .int y :: .int x :: r => if y = 0 then none else mGo (pc + len) lo (.int (x - x / y * y) :: r) h
      | _ => none
    | .ineg => match st with
      | .int x :: r => mGo (pc + len) lo (.int (-x) :: r) h
      | _ => none
    | .ladd => mL2 (fun x y => x + y) (pc + len) lo st h
    | .lsub => mL2 (fun x y => x - y) (pc + len) lo st h
    | .lmul => mL2 (fun x y => x * y) (pc + len) lo st h
    | .land => mL2 (fun x y => x &&& y) (pc + len) lo st h
    | .lor => mL2 (fun x y => x ||| y) (pc + len) lo st h
    | .lshl => mLI (fun x y => x <<< (y.toInt64 &&& 63)) (pc + len) lo st h
    | .lshr => mLI (fun x y => x >>> (y.toInt64 &&& 63)) (pc + len) lo st h
    | .lushr => mLI (fun x y => (x.toUInt64 >>> (y.toInt64.toUInt64 &&& Int64.toUInt64 63)).toInt64) (pc + len) lo st h
    | .lcmp => match st with
      | .long y :: .long x :: r => mGo (pc + len) lo (.int (mLc x y) :: r) h
      | _ => none
    | .i2l => match st with
      | .int x :: r => mGo (pc + len) lo (.long x.toInt64 :: r) h
      | _ => none
    | .l2i => match st with
      | .long x :: r => mGo (pc + len) lo (.int x.toInt32 :: r) h
      | _ => none
    | .i2b => match st with
      | .int x :: r => mGo (pc + len) lo (.int x.toInt8.toInt32 :: r) h
      | _ => none
    | .goto _ => mGo a1 lo st h
    | .if_icmp cd _ => match st with
      | .int y :: .int x :: r => mGo (mCd cd x y a1 (pc + len)) lo r h
      | _ => none
    | .ifCond cd _ => match st with
      | .int x :: r => mGo (mCd cd x 0 a1 (pc + len)) lo r h
      | _ => none
    | .tableswitch _ _ _ _ | .lookupswitch _ _ => match st with
      | .int x :: r => mGo (mSw x sw a1) lo r h
      | _ => none
    | .getstatic _ => mGo (pc + len) lo (.ref (mBase + a1) :: st) h
    | .getfield _ => match st with
      | .ref k :: r => match h[k]? with
        | some (.inl (c, fs)) => bif Nat.beq c a1 then (match fs[a2]? with
          | some v => mGo (pc + len) lo (v :: r) h
          | none => none) else none
        | _ => none
      | _ => none
    | _ => none
def mStep2 (ro : List (List Int32)) (rk : Nat) (i : mI) (pc : Nat) (lo : mO) (st : List Value) (h : mH) : Option mR := match i with
  | (ins, len, a1, a2, a3, v32, v64, sw) => match ins with
    | .putfield _ => match st with
      | v :: .ref k :: r => match h[k]? with
        | some (.inl (c, fs)) => bif Nat.beq c a1 && Nat.blt a2 fs.length then (match a3, v with
          | 0, .int x => mGo (pc + len) lo r (h.set k (.inl (c, fs.set a2 (.int x))))
          | 1, .int x => if x = 0 ∨ x = 1 then mGo (pc + len) lo r (h.set k (.inl (c, fs.set a2 (.int x)))) else none
          | 2, .long x => mGo (pc + len) lo r (h.set k (.inl (c, fs.set a2 (.long x))))
          | 3, .ref x => mGo (pc + len) lo r (h.set k (.inl (c, fs.set a2 (.ref x))))
          | _, _ => none) else none
        | _ => none
      | _ => none
    | .iaload => match st with
      | .int i :: .ref k :: r => match mRow ro h k with
        | some l => if i < 0 then none else (match l[i.toNatClampNeg]? with
          | some x => mGo (pc + len) lo (.int x :: r) h
          | none => none)
        | none => none
      | _ => none
    | .baload => match st with
      | .int i :: .ref k :: r => match h[k]? with
        | some (.inr (t, .inl l)) => bif Nat.beq t 1 || Nat.beq t 2 then (if i < 0 then none else (match l[i.toNatClampNeg]? with
          | some x => mGo (pc + len) lo (.int x :: r) h
          | none => none)) else none
        | _ => none
      | _ => none
    | .laload => match st with
      | .int i :: .ref k :: r => match h[k]? with
        | some (.inr (3, .inr (.inl l))) => if i < 0 then none else (match l[i.toNatClampNeg]? with
          | some x => mGo (pc + len) lo (.long x :: r) h
          | none => none)
        | _ => none
      | _ => none
    | .aaload => match st with
      | .int i :: .ref k :: r => match h[k]? with
        | some (.inr (4, .inr (.inr l))) => if i < 0 then none else (match l[i.toNatClampNeg]? with
          | some (some x) => mGo (pc + len) lo (.ref x :: r) h
          | _ => none)
        | _ => none
      | _ => none
    | .iastore => match st with
      | .int x :: .int i :: .ref k :: r => match h[k]? with
        | some (.inr (0, .inl l)) => if i < 0 ∨ l.length ≤ i.toNatClampNeg then none else mGo (pc + len) lo r (h.set k (.inr (0, .inl (l.set i.toNatClampNeg x))))
        | _ => none
      | _ => none
    | .bastore => match st with
      | .int x :: .int i :: .ref k :: r => match h[k]? with
        | some (.inr (1, .inl l)) => if i < 0 ∨ l.length ≤ i.toNatClampNeg then none else mGo (pc + len) lo r (h.set k (.inr (1, .inl (l.set i.toNatClampNeg x.toInt8.toInt32))))
        | some (.inr (2, .inl l)) => if (i < 0 ∨ l.length ≤ i.toNatClampNeg) ∨ ¬ (x = 0 ∨ x = 1) then none else mGo (pc + len) lo r (h.set k (.inr (2, .inl (l.set i.toNatClampNeg x))))
        | _ => none
      | _ => none
    | .lastore => match st with
      | .long x :: .int i :: .ref k :: r => match h[k]? with
        | some (.inr (3, .inr (.inl l))) => if i < 0 ∨ l.length ≤ i.toNatClampNeg then none else mGo (pc + len) lo r (h.set k (.inr (3, .inr (.inl (l.set i.toNatClampNeg x)))))
        | _ => none
      | _ => none
    | .arraylength => match st with
      | .ref k :: r => match mRow ro h k with
        | some l => mGo (pc + len) lo (.int (Int32.ofNat l.length) :: r) h
        | none => none
      | _ => none
    | .new _ => some (.inl (pc + len, lo, .ref h.length :: st, h ++ [.inl (a1, mNew a1)], 1, a2))
    | .newarray _ => match st with
      | .int n :: r => if n < 0 ∨ 4096 < n.toNatClampNeg then none else some (.inl (pc + len, lo, .ref h.length :: r, h ++ [mArr a1 n.toNatClampNeg], 1, n.toNatClampNeg))
      | _ => none
    | .multianewarray _ _ => match st with
      | .int m :: .int n :: r => if (n < 0 ∨ 4096 < n.toNatClampNeg) ∨ (m < 0 ∨ 4096 < m.toNatClampNeg) then none else
          some (.inl (pc + len, lo, .ref h.length :: r, h ++ (.inr (4, .inr (.inr ((List.range n.toNatClampNeg).map fun i => some (h.length + 1 + i)))) :: List.replicate n.toNatClampNeg (mArr 0 m.toNatClampNeg)), 1 + n.toNatClampNeg, n.toNatClampNeg + n.toNatClampNeg * m.toNatClampNeg))
      | _ => none
    | .ireturn => match rk, st with
      | 1, [.int x] => some (.inr (.inl (some (.int x))))
      | 2, [.int x] => if x = 0 ∨ x = 1 then some (.inr (.inl (some (.int x)))) else none
      | _, _ => none
    | .lreturn => match rk, st with
      | 3, [.long x] => some (.inr (.inl (some (.long x))))
      | _, _ => none
    | .return_ => match rk, st with
      | 0, [] => some (.inr (.inl none))
      | _, _ => none
    | .invokespecial _ => bif Nat.beq a3 1 then (match st with
        | .ref _ :: r => bif Nat.ble (mCat r) 8 then mGo (pc + len) lo r h else none
        | _ => none)
      else (match (st.take a2).reverse with
        | .ref k :: as => bif Nat.ble a2 st.length && Nat.ble (mCat (st.drop a2)) 8 then some (.inr (.inr (a1, .ref k :: as, st.drop a2))) else none
        | _ => none)
    | .invokevirtual _ => bif Nat.ble a2 st.length && Nat.ble (mCat (st.drop a2)) 8 && mRecv h a3 (st.take a2).reverse then some (.inr (.inr (a1, (st.take a2).reverse, st.drop a2))) else none
    | .invokestatic _ => bif Nat.beq a3 1 then (match st with
        | .int n :: .int dp :: .ref d :: .int sp :: .ref s :: r => match h[s]?, h[d]? with
          | some (.inr (0, .inl ls)), some (.inr (0, .inl ld)) => if ((sp < 0 ∨ dp < 0) ∨ n < 0) ∨ (ls.length < sp.toNatClampNeg + n.toNatClampNeg ∨ ld.length < dp.toNatClampNeg + n.toNatClampNeg) ∨ 8 < mCat r then none else
            mGo (pc + len) lo r (h.set d (.inr (0, .inl (ld.take dp.toNatClampNeg ++ ((ls.drop sp.toNatClampNeg).take n.toNatClampNeg ++ ld.drop (dp.toNatClampNeg + n.toNatClampNeg))))))
          | _, _ => none
        | _ => none)
      else bif Nat.ble a2 st.length && Nat.ble (mCat (st.drop a2)) 8 then some (.inr (.inr (a1, (st.take a2).reverse, st.drop a2))) else none
    | _ => none
/-- is it one of the first kind -/
def mKind (i : Instr) : Bool := match i with
  | .putfield _ | .iaload | .baload | .laload | .aaload | .iastore | .bastore | .lastore | .arraylength | .new _ | .newarray _ | .multianewarray _ _ | .ireturn | .lreturn | .return_ | .invokespecial _ | .invokevirtual _ | .invokestatic _ => false
  | _ => true
def mStep (ro : List (List Int32)) (rk : Nat) (i : mI) (pc : Nat) (lo : mO) (st : List Value) (h : mH) : Option mR :=
  bif mKind i.1 then mStep1 ro i pc lo st h else mStep2 ro rk i pc lo st h
end
section
/-! methods and their instructions, by a program of ours out of the printed names -/
abbrev kI (i : Instr) (len : Nat) (a1 a2 a3 : Nat) (v : Int32) : Option mI := some (i, len, a1, a2, a3, v, 0, [])
abbrev kJ (i : Instr) (len : Nat) : Option mI := some (i, len, 0, 0, 0, 0, 0, [])
abbrev kK (i : Instr) (len a1 : Nat) : Option mI := some (i, len, a1, 0, 0, 0, 0, [])
abbrev kV (i : Instr) (len : Nat) (v : Int32) : Option mI := some (i, len, 0, 0, 0, v, 0, [])
abbrev kW (i : Instr) (len : Nat) (v : Int64) : Option mI := some (i, len, 0, 0, 0, 0, v, [])
abbrev kS (i : Instr) (len a1 : Nat) (sw : List (Int32 × Nat)) : Option mI := some (i, len, a1, 0, 0, 0, 0, sw)
def mK0 : List (Option mI) := [kJ (.aload_n 0) 1, kI (.invokespecial 3) 3 0 0 1 0, none, none, kJ (.aload_n 0) 1, kV (.bipush 12) 2 12, none, kJ (.newarray .int) 2, none, kI (.putfield 9) 3 0 0 3 0, none, none, kJ (.aload_n 0) 1, kV (.bipush 20) 2 20, none, kJ (.newarray .int) 2, none, kI (.putfield 15) 3 0 1 3 0, none, none, kJ (.aload_n 0) 1, kV (.bipush 12) 2 12, none, kJ (.newarray .int) 2, none, kI (.putfield 18) 3 0 3 3 0, none, none, kJ (.aload_n 0) 1, kJ (.getfield 9) 3, none, none, kV (.bipush 100) 2 100, none, kI (.invokestatic 21) 3 263 2 0 0, none, none, kJ .return_ 1]
def mK1 : List (Option mI) := [kK (.aload_n 1) 1 1, kJ (.getfield 9) 3, none, none, kJ (.iconst 0) 1, kJ (.aload_n 0) 1, kJ (.getfield 9) 3, none, none, kJ (.iconst 0) 1, kV (.bipush 12) 2 12, none, kI (.invokestatic 27) 3 0 0 1 0, none, none, kK (.aload_n 1) 1 1, kI (.getfield 15) 3 0 1 0 0, none, none, kJ (.iconst 0) 1, kJ (.aload_n 0) 1, kI (.getfield 15) 3 0 1 0 0, none, none, kJ (.iconst 0) 1, kV (.bipush 20) 2 20, none, kI (.invokestatic 27) 3 0 0 1 0, none, none, kJ (.aload_n 0) 1, kK (.aload_n 1) 1 1, kI (.getfield 33) 3 0 2 0 0, none, none, kI (.putfield 33) 3 0 2 0 0, none, none, kJ .return_ 1]
def mK2 : List (Option mI) := [kK (.aload_n 1) 1 1, kI (.getfield 37) 3 4 2 0 0, none, none, kV (.iconst 2) 1 2, kJ .iaload 1, kK (.istore 4) 2 4, none, kK (.iload_n 3) 1 3, kK (.ifCond .eq 16) 3 25, none, none, kJ (.aload_n 0) 1, kI (.getfield 33) 3 0 2 0 0, none, none, kK (.iload 4) 2 4, none, kK (.if_icmp .lt 7) 3 25, none, none, kV (.iconst 1) 1 1, kK (.goto 4) 3 26, none, none, kJ (.iconst 0) 1, kK (.istore 5) 2 5, none, kK (.iload 5) 2 5, none, kK (.ifCond .eq 14) 3 44, none, none, kJ (.aload_n 0) 1, kJ .dup 1, kI (.getfield 33) 3 0 2 0 0, none, none, kK (.iload 4) 2 4, none, kJ .isub 1, kI (.putfield 33) 3 0 2 0 0, none, none, kJ (.iconst 0) 1, kK (.istore 6) 2 6, none, kK (.iload 6) 2 6, none, kV (.bipush 12) 2 12, none, kK (.if_icmp .ge 29) 3 80, none, none, kJ (.aload_n 0) 1, kI (.getfield 18) 3 0 3 0 0, none, none, kK (.iload 6) 2 6, none, kK (.aload_n 1) 1 1, kJ (.aload_n 0) 1, kJ (.getfield 9) 3, none, none, kK (.iload 6) 2 6, none, kK (.iload_n 2) 1 2, kK (.iload 5) 2 5, none, kI (.invokevirtual 42) 3 32 5 4 0, none, none, kJ .iastore 1, kI (.iinc 6 1) 3 6 0 0 1, none, none, kK (.goto (-30)) 3 47, none, none, kJ (.aload_n 0) 1, kI (.getfield 18) 3 0 3 0 0, none, none, kJ (.iconst 0) 1, kJ (.aload_n 0) 1, kJ (.getfield 9) 3, none, none, kJ (.iconst 0) 1, kV (.bipush 12) 2 12, none, kI (.invokestatic 27) 3 0 0 1 0, none, none, kK (.iload 5) 2 5, none, kJ .ireturn 1]
def mK3 : List (Option mI) := [kJ (.iconst 0) 1, kK (.istore_n 2) 1 2, kK (.iload_n 2) 1 2, kV (.bipush 12) 2 12, none, kK (.if_icmp .ge 21) 3 26, none, none, kJ (.aload_n 0) 1, kJ (.getfield 9) 3, none, none, kK (.iload_n 2) 1 2, kJ .iaload 1, kK (.iload_n 1) 1 1, kK (.if_icmp .le 5) 3 20, none, none, kK (.iload_n 2) 1 2, kJ .ireturn 1, kI (.iinc 2 1) 3 2 0 0 1, none, none, kK (.goto (-21)) 3 2, none, none, kV (.iconst (-1)) 1 (-1), kJ .ireturn 1]
def mK4 : List (Option mI) := [kJ (.aload_n 0) 1, kI (.invokespecial 3) 3 0 0 1 0, none, none, kJ (.aload_n 0) 1, kV (.bipush 8) 2 8, none, kV (.iconst 5) 1 5, kJ (.multianewarray 11 2) 4, none, none, none, kI (.putfield 13) 3 1 0 3 0, none, none, kJ (.aload_n 0) 1, kV (.bipush 8) 2 8, none, kJ (.newarray .int) 2, none, kI (.putfield 16) 3 1 2 3 0, none, none, kJ .return_ 1]
def mK5 : List (Option mI) := [kJ (.aload_n 0) 1, kI (.getfield 20) 3 1 1 0 0, none, none, kV (.bipush 8) 2 8, none, kK (.if_icmp .lt 6) 3 12, none, none, kV (.bipush (-104)) 2 (-104), none, kJ .ireturn 1, kJ (.aload_n 0) 1, kI (.getfield 16) 3 1 2 0 0, none, none, kJ (.aload_n 0) 1, kI (.getfield 20) 3 1 1 0 0, none, none, kK (.iload_n 1) 1 1, kJ .iastore 1, kJ (.aload_n 0) 1, kJ .dup 1, kI (.getfield 20) 3 1 1 0 0, none, none, kV (.iconst 1) 1 1, kJ .iadd 1, kI (.putfield 20) 3 1 1 0 0, none, none, kJ (.aload_n 0) 1, kI (.getfield 20) 3 1 1 0 0, none, none, kV (.iconst 1) 1 1, kJ .isub 1, kJ .ireturn 1]
def mK6 : List (Option mI) := [kJ (.iconst 0) 1, kK (.istore_n 3) 1 3, kV (.iconst 1) 1 1, kK (.istore 4) 2 4, none, kK (.iload 4) 2 4, none, kV (.iconst 1) 1 1, kJ (.aload_n 0) 1, kI (.getfield 20) 3 1 1 0 0, none, none, kJ .ishl 1, kK (.if_icmp .ge 33) 3 46, none, none, kJ (.aload_n 0) 1, kK (.iload 4) 2 4, none, kI (.invokevirtual 24) 3 8 2 1 0, none, none, kK (.iload_n 1) 1 1, kK (.if_icmp .gt 17) 3 40, none, none, kJ (.aload_n 0) 1, kK (.iload 4) 2 4, none, kK (.iload_n 3) 1 3, kK (.iload_n 2) 1 2, kI (.invokevirtual 28) 3 7 4 1 0, none, none, kK (.ifCond .eq 6) 3 40, none, none, kK (.iload 4) 2 4, none, kK (.istore_n 3) 1 3, kI (.iinc 4 1) 3 4 0 0 1, none, none, kK (.goto (-38)) 3 5, none, none, kK (.iload_n 3) 1 3, kJ .ireturn 1]
def mK7 : List (Option mI) := [kJ (.aload_n 0) 1, kK (.iload_n 1) 1 1, kK (.iload_n 3) 1 3, kI (.invokevirtual 32) 3 9 3 1 0, none, none, kJ (.aload_n 0) 1, kK (.iload_n 2) 1 2, kK (.iload_n 3) 1 3, kI (.invokevirtual 32) 3 9 3 1 0, none, none, kJ .isub 1, kK (.istore 4) 2 4, none, kK (.iload 4) 2 4, none, kK (.ifCond .gt 21) 3 38, none, none, kK (.iload 4) 2 4, none, kK (.ifCond .ne 20) 3 42, none, none, kJ (.aload_n 0) 1, kK (.iload_n 1) 1 1, kI (.invokevirtual 24) 3 8 2 1 0, none, none, kJ (.aload_n 0) 1, kK (.iload_n 2) 1 2, kI (.invokevirtual 24) 3 8 2 1 0, none, none, kK (.if_icmp .ge 7) 3 42, none, none, kV (.iconst 1) 1 1, kK (.goto 4) 3 43, none, none, kJ (.iconst 0) 1, kJ .ireturn 1]
def mK8 : List (Option mI) := [kJ (.iconst 0) 1, kK (.istore_n 2) 1 2, kJ (.iconst 0) 1, kK (.istore_n 3) 1 3, kK (.iload_n 3) 1 3, kJ (.aload_n 0) 1, kI (.getfield 20) 3 1 1 0 0, none, none, kK (.if_icmp .ge 27) 3 36, none, none, kK (.iload_n 1) 1 1, kK (.iload_n 3) 1 3, kJ .ishr 1, kV (.iconst 1) 1 1, kJ .iand 1, kV (.iconst 1) 1 1, kK (.if_icmp .ne 12) 3 30, none, none, kK (.iload_n 2) 1 2, kJ (.aload_n 0) 1, kI (.getfield 16) 3 1 2 0 0, none, none, kK (.iload_n 3) 1 3, kJ .iaload 1, kJ .iadd 1, kK (.istore_n 2) 1 2, kI (.iinc 3 1) 3 3 0 0 1, none, none, kK (.goto (-29)) 3 4, none, none, kK (.iload_n 2) 1 2, kJ .ireturn 1]
def mK9 : List (Option mI) := [kJ (.aload_n 0) 1, kK (.iload_n 1) 1 1, kJ (.iconst 0) 1, kI (.invokevirtual 36) 3 10 3 1 0, none, none, kK (.istore_n 3) 1 3, kV (.iconst 1) 1 1, kK (.istore 4) 2 4, none, kK (.iload 4) 2 4, none, kK (.iload_n 2) 1 2, kK (.if_icmp .ge 21) 3 34, none, none, kK (.iload_n 3) 1 3, kJ (.aload_n 0) 1, kK (.iload_n 1) 1 1, kK (.iload 4) 2 4, none, kI (.invokevirtual 36) 3 10 3 1 0, none, none, kI (.invokestatic 39) 3 262 2 0 0, none, none, kK (.istore_n 3) 1 3, kI (.iinc 4 1) 3 4 0 0 1, none, none, kK (.goto (-21)) 3 10, none, none, kK (.iload_n 3) 1 3, kJ .ireturn 1]
def mK10 : List (Option mI) := [kJ (.iconst 0) 1, kK (.istore_n 3) 1 3, kJ (.iconst 0) 1, kK (.istore 4) 2 4, none, kK (.iload 4) 2 4, none, kJ (.aload_n 0) 1, kI (.getfield 20) 3 1 1 0 0, none, none, kK (.if_icmp .ge 31) 3 42, none, none, kK (.iload_n 1) 1 1, kK (.iload 4) 2 4, none, kJ .ishr 1, kV (.iconst 1) 1 1, kJ .iand 1, kV (.iconst 1) 1 1, kK (.if_icmp .ne 15) 3 36, none, none, kK (.iload_n 3) 1 3, kJ (.aload_n 0) 1, kK (.getfield 13) 3 1, none, none, kK (.iload 4) 2 4, none, kJ .aaload 1, kK (.iload_n 2) 1 2, kJ .iaload 1, kJ .iadd 1, kK (.istore_n 3) 1 3, kI (.iinc 4 1) 3 4 0 0 1, none, none, kK (.goto (-34)) 3 5, none, none, kK (.iload_n 3) 1 3, kJ .ireturn 1]
def mK11 : List (Option mI) := [kJ (.iconst 0) 1, kK (.istore_n 3) 1 3, kK (.iload_n 3) 1 3, kJ (.aload_n 0) 1, kI (.getfield 20) 3 1 1 0 0, none, none, kK (.if_icmp .ge 33) 3 40, none, none, kK (.lload_n 1) 1 1, kJ (.aload_n 0) 1, kI (.getfield 16) 3 1 2 0 0, none, none, kK (.iload_n 3) 1 3, kJ .iaload 1, kJ .i2l 1, kI (.invokestatic 44) 3 106 2 0 0, none, none, kK (.lstore_n 1) 1 1, kK (.lload_n 1) 1 1, kJ (.aload_n 0) 1, kK (.getfield 13) 3 1, none, none, kK (.iload_n 3) 1 3, kJ .aaload 1, kV (.iconst 5) 1 5, kI (.invokestatic 48) 3 107 3 0 0, none, none, kK (.lstore_n 1) 1 1, kI (.iinc 3 1) 3 3 0 0 1, none, none, kK (.goto (-35)) 3 2, none, none, kK (.lload_n 1) 1 1, kJ .lreturn 1]
def mK12 : List (Option mI) := [kJ (.aload_n 0) 1, kI (.invokespecial 5) 3 0 0 1 0, none, none, kJ (.aload_n 0) 1, kV (.iconst 4) 1 4, kJ (.newarray .int) 2, none, kI (.putfield 11) 3 2 0 3 0, none, none, kJ (.aload_n 0) 1, kV (.bipush 6) 2 6, none, kV (.iconst 4) 1 4, kJ (.multianewarray 15 2) 4, none, none, none, kI (.putfield 17) 3 2 1 3 0, none, none, kJ (.aload_n 0) 1, kV (.iconst 1) 1 1, kI (.putfield 20) 3 2 3 0 0, none, none, kJ (.aload_n 0) 1, kV (.bipush 6) 2 6, none, kJ (.newarray .int) 2, none, kI (.putfield 24) 3 2 5 3 0, none, none, kJ (.aload_n 0) 1, kV (.bipush 6) 2 6, none, kJ (.newarray .int) 2, none, kI (.putfield 27) 3 2 6 3 0, none, none, kJ (.aload_n 0) 1, kV (.iconst 4) 1 4, kJ (.newarray .int) 2, none, kI (.putfield 30) 3 2 7 3 0, none, none, kJ (.aload_n 0) 1, kV (.bipush 6) 2 6, none, kJ (.newarray .int) 2, none, kI (.putfield 33) 3 2 8 3 0, none, none, kJ (.aload_n 0) 1, kV (.bipush 6) 2 6, none, kJ (.newarray .int) 2, none, kI (.putfield 36) 3 2 9 3 0, none, none, kJ (.aload_n 0) 1, kV (.bipush 7) 2 7, none, kJ (.newarray .int) 2, none, kI (.putfield 39) 3 2 10 3 0, none, none, kJ (.iconst 0) 1, kK (.istore_n 1) 1 1, kK (.iload_n 1) 1 1, kV (.bipush 6) 2 6, none, kK (.if_icmp .ge 20) 3 99, none, none, kJ (.aload_n 0) 1, kI (.getfield 17) 3 2 1 0 0, none, none, kK (.iload_n 1) 1 1, kJ .aaload 1, kV (.bipush 10) 2 10, none, kI (.invokestatic 42) 3 263 2 0 0, none, none, kI (.iinc 1 1) 3 1 0 0 1, none, none, kK (.goto (-20)) 3 76, none, none, kJ .return_ 1]
def mK13 : List (Option mI) := [kJ (.aload_n 0) 1, kI (.getfield 48) 3 2 2 0 0, none, none, kV (.bipush 6) 2 6, none, kK (.if_icmp .lt 6) 3 12, none, none, kV (.bipush (-104)) 2 (-104), none, kJ .ireturn 1, kJ (.aload_n 0) 1, kI (.getfield 24) 3 2 5 0 0, none, none, kJ (.aload_n 0) 1, kI (.getfield 48) 3 2 2 0 0, none, none, kK (.iload_n 1) 1 1, kJ .iastore 1, kJ (.aload_n 0) 1, kI (.getfield 27) 3 2 6 0 0, none, none, kJ (.aload_n 0) 1, kI (.getfield 48) 3 2 2 0 0, none, none, kK (.iload_n 2) 1 2, kJ .iastore 1, kJ (.aload_n 0) 1, kJ .dup 1, kI (.getfield 48) 3 2 2 0 0, none, none, kV (.iconst 1) 1 1, kJ .iadd 1, kI (.putfield 48) 3 2 2 0 0, none, none, kJ (.aload_n 0) 1, kI (.getfield 48) 3 2 2 0 0, none, none, kV (.iconst 1) 1 1, kJ .isub 1, kJ .ireturn 1]
def mK14 : List (Option mI) := [kK (.iload_n 1) 1 1, kJ (.aload_n 0) 1, kI (.getfield 48) 3 2 2 0 0, none, none, kK (.if_icmp .ge 12) 3 17, none, none, kJ (.aload_n 0) 1, kI (.getfield 36) 3 2 9 0 0, none, none, kK (.iload_n 1) 1 1, kJ .iaload 1, kK (.goto 4) 3 18, none, none, kV (.iconst (-1)) 1 (-1), kJ .ireturn 1]
def mK15 : List (Option mI) := [kJ (.aload_n 0) 1, kI (.getfield 24) 3 2 5 0 0, none, none, kK (.iload_n 1) 1 1, kJ .iaload 1, kJ (.iconst 0) 1, kJ (.aload_n 0) 1, kI (.getfield 27) 3 2 6 0 0, none, none, kK (.iload_n 1) 1 1, kJ .iaload 1, kJ (.aload_n 0) 1, kI (.getfield 20) 3 2 3 0 0, none, none, kJ (.aload_n 0) 1, kI (.getfield 17) 3 2 1 0 0, none, none, kK (.iload_n 1) 1 1, kJ .aaload 1, kK (.iload_n 2) 1 2, kJ .iaload 1, kJ .imul 1, kJ .isub 1, kI (.invokestatic 51) 3 261 2 0 0, none, none, kJ .imul 1, kJ .ireturn 1]
def mK16 : List (Option mI) := [kJ (.aload_n 0) 1, kK (.getfield 11) 3 2, none, none, kJ (.iconst 0) 1, kJ (.aload_n 0) 1, kI (.getfield 30) 3 2 7 0 0, none, none, kJ (.iconst 0) 1, kV (.iconst 4) 1 4, kI (.invokestatic 57) 3 0 0 1 0, none, none, kJ (.aload_n 0) 1, kI (.getfield 39) 3 2 10 0 0, none, none, kJ (.aload_n 0) 1, kI (.getfield 48) 3 2 2 0 0, none, none, kJ (.iconst 0) 1, kJ .iastore 1, kJ (.aload_n 0) 1, kI (.getfield 48) 3 2 2 0 0, none, none, kV (.iconst 1) 1 1, kJ .isub 1, kK (.istore_n 1) 1 1, kK (.iload_n 1) 1 1, kK (.ifCond .lt 29) 3 61, none, none, kJ (.aload_n 0) 1, kI (.getfield 39) 3 2 10 0 0, none, none, kK (.iload_n 1) 1 1, kJ (.aload_n 0) 1, kI (.getfield 39) 3 2 10 0 0, none, none, kK (.iload_n 1) 1 1, kV (.iconst 1) 1 1, kJ .iadd 1, kJ .iaload 1, kJ (.aload_n 0) 1, kK (.iload_n 1) 1 1, kI (.invokevirtual 63) 3 17 2 2 0, none, none, kJ .iadd 1, kJ .iastore 1, kI (.iinc 1 (-1)) 3 1 0 0 (-1), none, none, kK (.goto (-27)) 3 31, none, none, kJ (.aload_n 0) 1, kV (.iconst (-1)) 1 (-1), kI (.putfield 67) 3 2 4 0 0, none, none, kJ (.aload_n 0) 1, kJ (.iconst 0) 1, kJ (.iconst 0) 1, kI (.invokestatic 70) 3 18 3 0 0, none, none, kJ .return_ 1]
def mK17 : List (Option mI) := [kJ (.iconst 0) 1, kK (.istore_n 2) 1 2, kJ (.iconst 0) 1, kK (.istore_n 3) 1 3, kK (.iload_n 3) 1 3, kV (.iconst 4) 1 4, kK (.if_icmp .ge 20) 3 26, none, none, kK (.iload_n 2) 1 2, kJ (.aload_n 0) 1, kK (.iload_n 1) 1 1, kK (.iload_n 3) 1 3, kI (.invokevirtual 74) 3 15 3 2 0, none, none, kI (.invokestatic 51) 3 261 2 0 0, none, none, kK (.istore_n 2) 1 2, kI (.iinc 3 1) 3 3 0 0 1, none, none, kK (.goto (-19)) 3 4, none, none, kK (.iload_n 2) 1 2, kJ .ireturn 1]
def mK18_0 : List (Option mI) := [kK (.iload_n 2) 1 2, kJ (.aload_n 0) 1, kI (.getfield 39) 3 2 10 0 0, none, none, kK (.iload_n 1) 1 1, kJ .iaload 1, kJ .iadd 1, kJ (.aload_n 0) 1, kI (.getfield 67) 3 2 4 0 0, none, none, kK (.if_icmp .gt 4) 3 16, none, none, kJ .return_ 1, kK (.iload_n 1) 1 1, kJ (.aload_n 0) 1, kI (.getfield 48) 3 2 2 0 0, none, none, kK (.if_icmp .lt 26) 3 47, none, none, kJ (.aload_n 0) 1, kK (.iload_n 2) 1 2, kI (.putfield 67) 3 2 4 0 0, none, none, kJ (.aload_n 0) 1, kI (.getfield 33) 3 2 8 0 0, none, none, kJ (.iconst 0) 1, kJ (.aload_n 0) 1, kI (.getfield 36) 3 2 9 0 0, none, none, kJ (.iconst 0) 1, kJ (.aload_n 0) 1, kI (.getfield 48) 3 2 2 0 0, none, none, kI (.invokestatic 57) 3 0 0 1 0, none, none, kJ .return_ 1, kJ (.iconst 0) 1, kK (.istore_n 3) 1 3, kK (.iload_n 3) 1 3, kV (.iconst 4) 1 4, kK (.if_icmp .ge 76) 3 127, none, none, kJ (.aload_n 0) 1, kI (.getfield 24) 3 2 5 0 0, none, none, kK (.iload_n 1) 1 1, kJ .iaload 1, kJ (.aload_n 0) 1, kI (.getfield 30) 3 2 7 0 0, none, none, kK (.iload_n 3) 1 3, kJ .iaload 1, kK (.if_icmp .gt 55) 3 121, none, none, kJ (.aload_n 0) 1, kI (.getfield 30) 3 2 7 0 0, none, none, kK (.iload_n 3) 1 3, kJ .dup2 1, kJ .iaload 1, kJ (.aload_n 0) 1, kI (.getfield 24) 3 2 5 0 0, none, none, kK (.iload_n 1) 1 1, kJ .iaload 1, kJ .isub 1, kJ .iastore 1, kJ (.aload_n 0) 1, kI (.getfield 33) 3 2 8 0 0, none, none, kK (.iload_n 1) 1 1, kK (.iload_n 3) 1 3, kJ .iastore 1, kJ (.aload_n 0) 1, kK (.iload_n 1) 1 1, kV (.iconst 1) 1 1, kJ .iadd 1, kK (.iload_n 2) 1 2, kJ (.aload_n 0) 1, kK (.iload_n 1) 1 1, kK (.iload_n 3) 1 3, kI (.invokevirtual 74) 3 15 3 2 0, none, none, kJ .iadd 1, kI (.invokestatic 70) 3 18 3 0 0, none, none, kJ (.aload_n 0) 1, kI (.getfield 30) 3 2 7 0 0, none, none, kK (.iload_n 3) 1 3, kJ .dup2 1, kJ .iaload 1, kJ (.aload_n 0) 1, kI (.getfield 24) 3 2 5 0 0, none, none, kK (.iload_n 1) 1 1, kJ .iaload 1, kJ .iadd 1]
def mK18_1 : List (Option mI) := [kJ .iastore 1, kI (.iinc 3 1) 3 3 0 0 1, none, none, kK (.goto (-75)) 3 49, none, none, kJ (.aload_n 0) 1, kI (.getfield 33) 3 2 8 0 0, none, none, kK (.iload_n 1) 1 1, kV (.iconst 4) 1 4, kJ .iastore 1, kJ (.aload_n 0) 1, kK (.iload_n 1) 1 1, kV (.iconst 1) 1 1, kJ .iadd 1, kK (.iload_n 2) 1 2, kI (.invokestatic 70) 3 18 3 0 0, none, none, kJ .return_ 1]
def mK18 : List (Option mI) := mK18_0 ++ (mK18_1)
def mK19 : List (Option mI) := [kJ (.iconst 0) 1, kK (.istore_n 3) 1 3, kK (.iload_n 3) 1 3, kJ (.aload_n 0) 1, kI (.getfield 48) 3 2 2 0 0, none, none, kK (.if_icmp .ge 45) 3 52, none, none, kK (.lload_n 1) 1 1, kJ (.aload_n 0) 1, kI (.getfield 24) 3 2 5 0 0, none, none, kK (.iload_n 3) 1 3, kJ .iaload 1, kJ .i2l 1, kI (.invokestatic 77) 3 106 2 0 0, none, none, kK (.lstore_n 1) 1 1, kK (.lload_n 1) 1 1, kJ (.aload_n 0) 1, kI (.getfield 27) 3 2 6 0 0, none, none, kK (.iload_n 3) 1 3, kJ .iaload 1, kJ .i2l 1, kI (.invokestatic 77) 3 106 2 0 0, none, none, kK (.lstore_n 1) 1 1, kK (.lload_n 1) 1 1, kJ (.aload_n 0) 1, kI (.getfield 17) 3 2 1 0 0, none, none, kK (.iload_n 3) 1 3, kJ .aaload 1, kV (.iconst 4) 1 4, kI (.invokestatic 81) 3 107 3 0 0, none, none, kK (.lstore_n 1) 1 1, kI (.iinc 3 1) 3 3 0 0 1, none, none, kK (.goto (-47)) 3 2, none, none, kK (.lload_n 1) 1 1, kJ (.aload_n 0) 1, kK (.getfield 11) 3 2, none, none, kV (.iconst 4) 1 4, kI (.invokestatic 81) 3 107 3 0 0, none, none, kK (.lstore_n 1) 1 1, kK (.lload_n 1) 1 1, kJ (.aload_n 0) 1, kI (.getfield 20) 3 2 3 0 0, none, none, kJ .i2l 1, kI (.invokestatic 77) 3 106 2 0 0, none, none, kJ .lreturn 1]
def mK20 : List (Option mI) := [kJ (.aload_n 0) 1, kI (.invokespecial 3) 3 0 0 1 0, none, none, kJ (.aload_n 0) 1, kV (.bipush 8) 2 8, none, kV (.bipush 8) 2 8, none, kJ (.multianewarray 11 2) 4, none, none, none, kI (.putfield 13) 3 3 0 3 0, none, none, kJ (.aload_n 0) 1, kV (.bipush 8) 2 8, none, kJ (.newarray .int) 2, none, kI (.putfield 16) 3 3 3 3 0, none, none, kJ (.aload_n 0) 1, kV (.bipush 8) 2 8, none, kJ (.newarray .int) 2, none, kI (.putfield 20) 3 3 4 3 0, none, none, kJ .return_ 1]
def mK21 : List (Option mI) := [kK (.iload_n 1) 1 1, kJ (.iconst 0) 1, kJ (.aload_n 0) 1, kI (.getfield 23) 3 3 1 0 0, none, none, kV (.iconst 1) 1 1, kJ .isub 1, kI (.invokestatic 27) 3 102 3 0 0, none, none, kJ .ireturn 1]
def mK22 : List (Option mI) := [kJ (.aload_n 0) 1, kI (.getfield 23) 3 3 1 0 0, none, none, kV (.bipush 8) 2 8, none, kK (.if_icmp .lt 6) 3 12, none, none, kV (.bipush (-104)) 2 (-104), none, kJ .ireturn 1, kJ (.aload_n 0) 1, kI (.getfield 16) 3 3 3 0 0, none, none, kJ (.aload_n 0) 1, kI (.getfield 23) 3 3 1 0 0, none, none, kK (.iload_n 1) 1 1, kJ .iastore 1, kJ (.aload_n 0) 1, kI (.getfield 20) 3 3 4 0 0, none, none, kJ (.aload_n 0) 1, kI (.getfield 23) 3 3 1 0 0, none, none, kK (.iload_n 2) 1 2, kJ .iastore 1, kJ (.aload_n 0) 1, kJ .dup 1, kI (.getfield 23) 3 3 1 0 0, none, none, kV (.iconst 1) 1 1, kJ .iadd 1, kI (.putfield 23) 3 3 1 0 0, none, none, kJ (.aload_n 0) 1, kI (.getfield 23) 3 3 1 0 0, none, none, kV (.iconst 1) 1 1, kJ .isub 1, kJ .ireturn 1]
def mK23 : List (Option mI) := [kJ (.iconst 0) 1, kK (.istore_n 2) 1 2, kJ (.aload_n 0) 1, kJ (.iconst 0) 1, kI (.putfield 31) 3 3 2 0 0, none, none, kJ (.iconst 0) 1, kK (.istore_n 3) 1 3, kK (.iload_n 3) 1 3, kJ (.aload_n 0) 1, kI (.getfield 23) 3 3 1 0 0, none, none, kK (.if_icmp .ge 38) 3 52, none, none, kJ (.aload_n 0) 1, kK (.iload_n 1) 1 1, kK (.iload_n 2) 1 2, kI (.invokevirtual 34) 3 24 3 3 0, none, none, kK (.istore 4) 2 4, none, kK (.iload 4) 2 4, none, kK (.iload_n 2) 1 2, kK (.if_icmp .ne 5) 3 33, none, none, kK (.iload_n 2) 1 2, kJ .ireturn 1, kK (.iload 4) 2 4, none, kK (.istore_n 2) 1 2, kJ (.aload_n 0) 1, kJ .dup 1, kI (.getfield 31) 3 3 2 0 0, none, none, kV (.iconst 1) 1 1, kJ .iadd 1, kI (.putfield 31) 3 3 2 0 0, none, none, kI (.iinc 3 1) 3 3 0 0 1, none, none, kK (.goto (-40)) 3 9, none, none, kK (.iload_n 2) 1 2, kJ .ireturn 1]
def mK24 : List (Option mI) := [kK (.iload_n 2) 1 2, kK (.istore_n 3) 1 3, kJ (.iconst 0) 1, kK (.istore 4) 2 4, none, kK (.iload 4) 2 4, none, kJ (.aload_n 0) 1, kI (.getfield 23) 3 3 1 0 0, none, none, kK (.if_icmp .ge 27) 3 38, none, none, kJ (.aload_n 0) 1, kK (.iload 4) 2 4, none, kK (.iload_n 1) 1 1, kK (.iload_n 2) 1 2, kI (.invokevirtual 38) 3 25 4 3 0, none, none, kK (.ifCond .ge 10) 3 32, none, none, kK (.iload_n 3) 1 3, kV (.iconst 1) 1 1, kK (.iload 4) 2 4, none, kJ .ishl 1, kJ .ior 1, kK (.istore_n 3) 1 3, kI (.iinc 4 1) 3 4 0 0 1, none, none, kK (.goto (-30)) 3 5, none, none, kK (.iload_n 3) 1 3, kJ .ireturn 1]
def mK25 : List (Option mI) := [kJ (.aload_n 0) 1, kI (.getfield 16) 3 3 3 0 0, none, none, kK (.iload_n 1) 1 1, kJ .iaload 1, kK (.iload_n 2) 1 2, kJ .imul 1, kJ (.aload_n 0) 1, kI (.getfield 20) 3 3 4 0 0, none, none, kK (.iload_n 1) 1 1, kJ .iaload 1, kJ .iadd 1, kK (.istore 4) 2 4, none, kJ (.iconst 0) 1, kK (.istore 5) 2 5, none, kK (.iload 5) 2 5, none, kJ (.aload_n 0) 1, kI (.getfield 23) 3 3 1 0 0, none, none, kK (.if_icmp .ge 46) 3 72, none, none, kK (.iload 4) 2 4, none, kJ (.aload_n 0) 1, kK (.getfield 13) 3 3, none, none, kK (.iload_n 1) 1 1, kJ .aaload 1, kK (.iload 5) 2 5, none, kJ .iaload 1, kJ .isub 1, kK (.istore 4) 2 4, none, kK (.iload_n 3) 1 3, kK (.iload 5) 2 5, none, kJ .ishr 1, kV (.iconst 1) 1 1, kJ .iand 1, kK (.ifCond .ne 17) 3 66, none, none, kK (.iload 4) 2 4, none, kJ (.aload_n 0) 1, kK (.getfield 13) 3 3, none, none, kK (.iload 5) 2 5, none, kJ .aaload 1, kK (.iload_n 1) 1 1, kJ .iaload 1, kJ .iadd 1, kK (.istore 4) 2 4, none, kI (.iinc 5 1) 3 5 0 0 1, none, none, kK (.goto (-49)) 3 20, none, none, kK (.iload 4) 2 4, none, kJ .ireturn 1]
def mK26 : List (Option mI) := [kJ (.iconst 0) 1, kK (.istore_n 2) 1 2, kV (.sipush 1000) 3 1000, none, none, kK (.istore_n 3) 1 3, kJ (.iconst 0) 1, kK (.istore 4) 2 4, none, kK (.iload 4) 2 4, none, kV (.bipush 11) 2 11, none, kK (.if_icmp .ge 43) 3 56, none, none, kK (.iload_n 2) 1 2, kK (.iload_n 3) 1 3, kK (.if_icmp .ge 38) 3 56, none, none, kK (.iload_n 2) 1 2, kK (.iload_n 3) 1 3, kJ .iadd 1, kV (.iconst 2) 1 2, kJ .idiv 1, kK (.istore 5) 2 5, none, kJ (.aload_n 0) 1, kK (.iload 5) 2 5, none, kI (.invokevirtual 42) 3 23 2 3 0, none, none, kK (.iload_n 1) 1 1, kJ .iand 1, kK (.ifCond .ne 9) 3 45, none, none, kK (.iload 5) 2 5, none, kK (.istore_n 3) 1 3, kK (.goto 8) 3 50, none, none, kK (.iload 5) 2 5, none, kV (.iconst 1) 1 1, kJ .iadd 1, kK (.istore_n 2) 1 2, kI (.iinc 4 1) 3 4 0 0 1, none, none, kK (.goto (-44)) 3 9, none, none, kK (.iload_n 3) 1 3, kV (.sipush 999) 3 999, none, none, kK (.if_icmp .le 8) 3 68, none, none, kV (.bipush (-2)) 2 (-2), none, kK (.goto 4) 3 69, none, none, kK (.iload_n 3) 1 3, kJ .ireturn 1]
def mK27 : List (Option mI) := [kJ (.iconst 0) 1, kK (.istore_n 3) 1 3, kK (.iload_n 3) 1 3, kJ (.aload_n 0) 1, kI (.getfield 23) 3 3 1 0 0, none, none, kK (.if_icmp .ge 48) 3 55, none, none, kK (.lload_n 1) 1 1, kJ (.aload_n 0) 1, kI (.getfield 16) 3 3 3 0 0, none, none, kK (.iload_n 3) 1 3, kJ .iaload 1, kJ .i2l 1, kI (.invokestatic 46) 3 106 2 0 0, none, none, kK (.lstore_n 1) 1 1, kK (.lload_n 1) 1 1, kJ (.aload_n 0) 1, kI (.getfield 20) 3 3 4 0 0, none, none, kK (.iload_n 3) 1 3, kJ .iaload 1, kJ .i2l 1, kI (.invokestatic 46) 3 106 2 0 0, none, none, kK (.lstore_n 1) 1 1, kK (.lload_n 1) 1 1, kJ (.aload_n 0) 1, kK (.getfield 13) 3 3, none, none, kK (.iload_n 3) 1 3, kJ .aaload 1, kJ (.aload_n 0) 1, kI (.getfield 23) 3 3 1 0 0, none, none, kI (.invokestatic 50) 3 107 3 0 0, none, none, kK (.lstore_n 1) 1 1, kI (.iinc 3 1) 3 3 0 0 1, none, none, kK (.goto (-50)) 3 2, none, none, kK (.lload_n 1) 1 1, kJ .lreturn 1]
def mK28 : List (Option mI) := [kJ (.aload_n 0) 1, kI (.invokespecial 3) 3 0 0 1 0, none, none, kJ (.aload_n 0) 1, kV (.bipush 12) 2 12, none, kJ (.newarray .int) 2, none, kI (.putfield 9) 3 4 0 3 0, none, none, kJ (.aload_n 0) 1, kV (.bipush 12) 2 12, none, kJ (.newarray .int) 2, none, kI (.putfield 15) 3 4 1 3 0, none, none, kJ (.aload_n 0) 1, kV (.iconst 3) 1 3, kJ (.newarray .int) 2, none, kJ .dup 1, kJ (.iconst 0) 1, kV (.iconst 5) 1 5, kJ .iastore 1, kJ .dup 1, kV (.iconst 1) 1 1, kV (.bipush 20) 2 20, none, kJ .iastore 1, kJ .dup 1, kV (.iconst 2) 1 2, kV (.iconst 1) 1 1, kJ .iastore 1, kI (.putfield 18) 3 4 2 3 0, none, none, kJ (.aload_n 0) 1, kV (.ldc 21) 2 1000000, none, kI (.putfield 22) 3 4 5 0 0, none, none, kJ (.aload_n 0) 1, kV (.bipush 6) 2 6, none, kJ (.newarray .int) 2, none, kI (.putfield 26) 3 4 6 3 0, none, none, kJ (.aload_n 0) 1, kV (.bipush 6) 2 6, none, kJ (.newarray .int) 2, none, kI (.putfield 29) 3 4 7 3 0, none, none, kJ (.aload_n 0) 1, kK (.getfield 9) 3 4, none, none, kV (.iconst 4) 1 4, kI (.invokestatic 32) 3 263 2 0 0, none, none, kJ (.aload_n 0) 1, kI (.getfield 15) 3 4 1 0 0, none, none, kJ (.iconst 0) 1, kV (.iconst 1) 1 1, kJ .iastore 1, kJ .return_ 1]
def mK29 : List (Option mI) := [kJ (.aload_n 0) 1, kI (.getfield 38) 3 4 3 0 0, none, none, kV (.bipush 6) 2 6, none, kK (.if_icmp .lt 6) 3 12, none, none, kV (.bipush (-104)) 2 (-104), none, kJ .ireturn 1, kJ (.aload_n 0) 1, kI (.getfield 26) 3 4 6 0 0, none, none, kJ (.aload_n 0) 1, kI (.getfield 38) 3 4 3 0 0, none, none, kK (.iload_n 1) 1 1, kJ .iastore 1, kJ (.aload_n 0) 1, kI (.getfield 29) 3 4 7 0 0, none, none, kJ (.aload_n 0) 1, kI (.getfield 38) 3 4 3 0 0, none, none, kK (.iload_n 2) 1 2, kJ .iastore 1, kJ (.aload_n 0) 1, kJ .dup 1, kI (.getfield 38) 3 4 3 0 0, none, none, kV (.iconst 1) 1 1, kJ .iadd 1, kI (.putfield 38) 3 4 3 0 0, none, none, kJ (.aload_n 0) 1, kI (.getfield 38) 3 4 3 0 0, none, none, kJ .ireturn 1]
def mK30 : List (Option mI) := [kJ (.iconst 0) 1, kK (.istore_n 1) 1 1, kJ (.iconst 0) 1, kK (.istore_n 2) 1 2, kK (.iload_n 2) 1 2, kJ (.aload_n 0) 1, kI (.getfield 38) 3 4 3 0 0, none, none, kK (.if_icmp .ge 18) 3 27, none, none, kK (.iload_n 1) 1 1, kJ (.aload_n 0) 1, kI (.getfield 26) 3 4 6 0 0, none, none, kK (.iload_n 2) 1 2, kJ .iaload 1, kJ .iadd 1, kK (.istore_n 1) 1 1, kI (.iinc 2 1) 3 2 0 0 1, none, none, kK (.goto (-20)) 3 4, none, none, kK (.iload_n 1) 1 1, kJ .ireturn 1]
def mK31 : List (Option mI) := [kV (.sipush 150) 3 150, none, none, kK (.istore_n 2) 1 2, kJ (.iconst 0) 1, kK (.istore_n 3) 1 3, kJ (.iconst 0) 1, kK (.istore 4) 2 4, none, kK (.iload 4) 2 4, none, kJ (.aload_n 0) 1, kI (.getfield 38) 3 4 3 0 0, none, none, kK (.if_icmp .ge 34) 3 49, none, none, kJ (.aload_n 0) 1, kI (.getfield 29) 3 4 7 0 0, none, none, kK (.iload 4) 2 4, none, kJ .iaload 1, kK (.istore_n 2) 1 2, kK (.iload_n 3) 1 3, kJ (.aload_n 0) 1, kI (.getfield 26) 3 4 6 0 0, none, none, kK (.iload 4) 2 4, none, kJ .iaload 1, kJ .iadd 1, kK (.istore_n 3) 1 3, kK (.iload_n 1) 1 1, kK (.iload_n 3) 1 3, kK (.if_icmp .ge 5) 3 43, none, none, kK (.iload_n 2) 1 2, kJ .ireturn 1, kI (.iinc 4 1) 3 4 0 0 1, none, none, kK (.goto (-37)) 3 9, none, none, kK (.iload_n 2) 1 2, kJ .ireturn 1]
def mK32 : List (Option mI) := [kJ (.aload_n 0) 1, kI (.getfield 18) 3 4 2 0 0, none, none, kJ (.iconst 0) 1, kJ .iaload 1, kK (.aload_n 1) 1 1, kK (.iload_n 2) 1 2, kI (.invokestatic 41) 3 33 2 0 0, none, none, kJ .imul 1, kJ (.aload_n 0) 1, kK (.getfield 9) 3 4, none, none, kK (.iload_n 2) 1 2, kJ .iaload 1, kK (.iload_n 3) 1 3, kK (.aload_n 1) 1 1, kK (.iload_n 2) 1 2, kJ .iaload 1, kJ .isub 1, kJ .imul 1, kJ .iadd 1, kK (.istore 5) 2 5, none, kK (.aload_n 1) 1 1, kK (.iload_n 2) 1 2, kJ .iaload 1, kK (.iload 5) 2 5, none, kV (.bipush 100) 2 100, none, kI (.invokestatic 45) 3 259 2 0 0, none, none, kJ .iadd 1, kK (.istore 6) 2 6, none, kK (.iload 4) 2 4, none, kK (.ifCond .eq 24) 3 66, none, none, kJ (.aload_n 0) 1, kI (.getfield 15) 3 4 1 0 0, none, none, kK (.iload_n 2) 1 2, kJ .iaload 1, kV (.iconst 1) 1 1, kK (.if_icmp .ne 14) 3 66, none, none, kK (.iload 6) 2 6, none, kJ (.aload_n 0) 1, kI (.getfield 18) 3 4 2 0 0, none, none, kV (.iconst 1) 1 1, kJ .iaload 1, kJ .isub 1, kK (.istore 6) 2 6, none, kK (.iload 6) 2 6, none, kV (.sipush (-300)) 3 (-300), none, none, kI (.invokestatic 51) 3 261 2 0 0, none, none, kJ .ireturn 1]
def mK33 : List (Option mI) := [kJ (.aload_n 0) 1, kK (.iload_n 1) 1 1, kJ .iaload 1, kK (.istore_n 2) 1 2, kJ (.iconst 0) 1, kK (.istore_n 3) 1 3, kK (.iload_n 1) 1 1, kV (.iconst 4) 1 4, kK (.if_icmp .lt 13) 3 21, none, none, kK (.iload_n 3) 1 3, kJ (.aload_n 0) 1, kK (.iload_n 1) 1 1, kV (.iconst 4) 1 4, kJ .isub 1, kJ .iaload 1, kK (.iload_n 2) 1 2, kJ .isub 1, kJ .iadd 1, kK (.istore_n 3) 1 3, kK (.iload_n 1) 1 1, kV (.bipush 8) 2 8, none, kK (.if_icmp .ge 13) 3 37, none, none, kK (.iload_n 3) 1 3, kJ (.aload_n 0) 1, kK (.iload_n 1) 1 1, kV (.iconst 4) 1 4, kJ .iadd 1, kJ .iaload 1, kK (.iload_n 2) 1 2, kJ .isub 1, kJ .iadd 1, kK (.istore_n 3) 1 3, kK (.iload_n 1) 1 1, kV (.iconst 4) 1 4, kJ .irem 1, kK (.ifCond .le 13) 3 53, none, none, kK (.iload_n 3) 1 3, kJ (.aload_n 0) 1, kK (.iload_n 1) 1 1, kV (.iconst 1) 1 1, kJ .isub 1, kJ .iaload 1, kK (.iload_n 2) 1 2, kJ .isub 1, kJ .iadd 1, kK (.istore_n 3) 1 3, kK (.iload_n 1) 1 1, kV (.iconst 4) 1 4, kJ .irem 1, kV (.iconst 3) 1 3, kK (.if_icmp .ge 13) 3 70, none, none, kK (.iload_n 3) 1 3, kJ (.aload_n 0) 1, kK (.iload_n 1) 1 1, kV (.iconst 1) 1 1, kJ .iadd 1, kJ .iaload 1, kK (.iload_n 2) 1 2, kJ .isub 1, kJ .iadd 1, kK (.istore_n 3) 1 3, kK (.iload_n 3) 1 3, kJ .ireturn 1]
def mK34 : List (Option mI) := [kJ (.iconst 0) 1, kK (.istore 4) 2 4, none, kK (.iload 4) 2 4, none, kV (.bipush 12) 2 12, none, kK (.if_icmp .ge 45) 3 52, none, none, kK (.lload_n 1) 1 1, kK (.aload_n 3) 1 3, kK (.iload 4) 2 4, none, kJ .iaload 1, kJ .i2l 1, kI (.invokestatic 54) 3 106 2 0 0, none, none, kK (.lstore_n 1) 1 1, kK (.lload_n 1) 1 1, kJ (.aload_n 0) 1, kK (.getfield 9) 3 4, none, none, kK (.iload 4) 2 4, none, kJ .iaload 1, kJ .i2l 1, kI (.invokestatic 54) 3 106 2 0 0, none, none, kK (.lstore_n 1) 1 1, kK (.lload_n 1) 1 1, kJ (.aload_n 0) 1, kI (.getfield 15) 3 4 1 0 0, none, none, kK (.iload 4) 2 4, none, kJ .iaload 1, kJ .i2l 1, kI (.invokestatic 54) 3 106 2 0 0, none, none, kK (.lstore_n 1) 1 1, kI (.iinc 4 1) 3 4 0 0 1, none, none, kK (.goto (-46)) 3 3, none, none, kK (.lload_n 1) 1 1, kJ (.aload_n 0) 1, kI (.getfield 18) 3 4 2 0 0, none, none, kV (.iconst 3) 1 3, kI (.invokestatic 58) 3 107 3 0 0, none, none, kK (.lstore_n 1) 1 1, kJ (.iconst 0) 1, kK (.istore 4) 2 4, none, kK (.iload 4) 2 4, none, kV (.sipush 1200) 3 1200, none, none, kK (.if_icmp .gt 21) 3 91, none, none, kK (.lload_n 1) 1 1, kJ (.aload_n 0) 1, kK (.iload 4) 2 4, none, kI (.invokevirtual 62) 3 31 2 4 0, none, none, kJ .i2l 1, kI (.invokestatic 54) 3 106 2 0 0, none, none, kK (.lstore_n 1) 1 1, kI (.iinc 4 100) 3 4 0 0 100, none, none, kK (.goto (-23)) 3 65, none, none, kK (.lload_n 1) 1 1, kJ .lreturn 1]
def mK35 : List (Option mI) := [kJ (.aload_n 0) 1, kI (.invokespecial 3) 3 0 0 1 0, none, none, kJ (.aload_n 0) 1, kV (.bipush 20) 2 20, none, kJ (.newarray .int) 2, none, kI (.putfield 9) 3 5 0 3 0, none, none, kJ (.aload_n 0) 1, kV (.bipush 20) 2 20, none, kJ (.newarray .int) 2, none, kI (.putfield 15) 3 5 1 3 0, none, none, kJ (.aload_n 0) 1, kV (.bipush 20) 2 20, none, kJ (.newarray .int) 2, none, kI (.putfield 18) 3 5 2 3 0, none, none, kJ (.aload_n 0) 1, kV (.bipush 20) 2 20, none, kV (.iconst 3) 1 3, kJ (.multianewarray 21 2) 4, none, none, none, kI (.putfield 23) 3 5 4 3 0, none, none, kJ .return_ 1]
def mK36 : List (Option mI) := [kJ (.iload_n 0) 1, kJ (.iconst 0) 1, kV (.iconst 5) 1 5, kI (.invokestatic 26) 3 102 3 0 0, none, none, kJ .ireturn 1]
def mK37 : List (Option mI) := [kK (.iload_n 1) 1 1, kV (.iconst 1) 1 1, kK (.if_icmp .ne 24) 3 26, none, none, kJ (.iload_n 0) 1, kV (.iconst 1) 1 1, kK (.if_icmp .eq 13) 3 20, none, none, kJ (.iload_n 0) 1, kV (.iconst 2) 1 2, kK (.if_icmp .eq 8) 3 20, none, none, kJ (.iload_n 0) 1, kV (.iconst 3) 1 3, kK (.if_icmp .ne 7) 3 24, none, none, kV (.iconst 1) 1 1, kK (.goto 4) 3 25, none, none, kJ (.iconst 0) 1, kJ .ireturn 1, kK (.iload_n 1) 1 1, kK (.ifCond .eq 8) 3 35, none, none, kK (.iload_n 1) 1 1, kJ (.iload_n 0) 1, kK (.if_icmp .ne 7) 3 39, none, none, kV (.iconst 1) 1 1, kK (.goto 4) 3 40, none, none, kJ (.iconst 0) 1, kJ .ireturn 1]
def mK38 : List (Option mI) := [kK (.iload_n 1) 1 1, kJ (.iconst 0) 1, kJ (.aload_n 0) 1, kI (.getfield 30) 3 5 3 0 0, none, none, kV (.iconst 1) 1 1, kJ .isub 1, kI (.invokestatic 26) 3 102 3 0 0, none, none, kJ .ireturn 1]
def mK39 : List (Option mI) := [kJ (.aload_n 0) 1, kI (.getfield 30) 3 5 3 0 0, none, none, kV (.bipush 20) 2 20, none, kK (.if_icmp .lt 6) 3 12, none, none, kV (.bipush (-104)) 2 (-104), none, kJ .ireturn 1, kJ (.aload_n 0) 1, kK (.getfield 9) 3 5, none, none, kJ (.aload_n 0) 1, kI (.getfield 30) 3 5 3 0 0, none, none, kK (.iload_n 1) 1 1, kJ .iastore 1, kJ (.aload_n 0) 1, kI (.getfield 15) 3 5 1 0 0, none, none, kJ (.aload_n 0) 1, kI (.getfield 30) 3 5 3 0 0, none, none, kK (.iload_n 2) 1 2, kJ .iastore 1, kJ (.aload_n 0) 1, kI (.getfield 18) 3 5 2 0 0, none, none, kJ (.aload_n 0) 1, kI (.getfield 30) 3 5 3 0 0, none, none, kK (.iload_n 3) 1 3, kJ .iastore 1, kJ (.aload_n 0) 1, kI (.getfield 23) 3 5 4 0 0, none, none, kJ (.aload_n 0) 1, kI (.getfield 30) 3 5 3 0 0, none, none, kJ .aaload 1, kV (.iconst (-1)) 1 (-1), kI (.invokestatic 34) 3 263 2 0 0, none, none, kJ (.aload_n 0) 1, kJ .dup 1, kI (.getfield 30) 3 5 3 0 0, none, none, kV (.iconst 1) 1 1, kJ .iadd 1, kI (.putfield 30) 3 5 3 0 0, none, none, kJ (.aload_n 0) 1, kI (.getfield 30) 3 5 3 0 0, none, none, kV (.iconst 1) 1 1, kJ .isub 1, kJ .ireturn 1]
def mK40 : List (Option mI) := [kJ (.iconst 0) 1, kK (.istore_n 2) 1 2, kK (.iload_n 2) 1 2, kJ (.aload_n 0) 1, kI (.getfield 30) 3 5 3 0 0, none, none, kK (.if_icmp .ge 38) 3 45, none, none, kK (.aload_n 1) 1 1, kI (.getfield 40) 3 0 1 0 0, none, none, kK (.iload_n 2) 1 2, kJ .dup2 1, kJ .iaload 1, kJ (.aload_n 0) 1, kK (.getfield 9) 3 5, none, none, kK (.iload_n 2) 1 2, kJ .iaload 1, kK (.aload_n 1) 1 1, kJ (.getfield 45) 3, none, none, kJ (.aload_n 0) 1, kI (.getfield 15) 3 5 1 0 0, none, none, kK (.iload_n 2) 1 2, kJ .iaload 1, kJ .iaload 1, kI (.invokestatic 48) 3 45 2 0 0, none, none, kJ .iadd 1, kJ .iastore 1, kI (.iinc 2 1) 3 2 0 0 1, none, none, kK (.goto (-40)) 3 2, none, none, kJ .return_ 1]
def mK41 : List (Option mI) := [kJ (.iconst 0) 1, kK (.istore_n 3) 1 3, kK (.iload_n 3) 1 3, kJ (.aload_n 0) 1, kI (.getfield 30) 3 5 3 0 0, none, none, kK (.if_icmp .ge 59) 3 66, none, none, kK (.aload_n 1) 1 1, kI (.getfield 40) 3 0 1 0 0, none, none, kK (.iload_n 3) 1 3, kJ .iaload 1, kI (.invokestatic 52) 3 44 1 0 0, none, none, kK (.istore 4) 2 4, none, kJ (.iconst 0) 1, kK (.istore 5) 2 5, none, kK (.iload 5) 2 5, none, kK (.iload 4) 2 4, none, kK (.if_icmp .ge 32) 3 60, none, none, kJ (.aload_n 0) 1, kI (.getfield 23) 3 5 4 0 0, none, none, kK (.iload_n 3) 1 3, kJ .aaload 1, kK (.iload 5) 2 5, none, kJ .iaload 1, kV (.iconst (-1)) 1 (-1), kK (.if_icmp .ne 13) 3 54, none, none, kJ (.aload_n 0) 1, kI (.getfield 23) 3 5 4 0 0, none, none, kK (.iload_n 3) 1 3, kJ .aaload 1, kK (.iload 5) 2 5, none, kK (.iload_n 2) 1 2, kJ .iastore 1, kI (.iinc 5 1) 3 5 0 0 1, none, none, kK (.goto (-33)) 3 24, none, none, kI (.iinc 3 1) 3 3 0 0 1, none, none, kK (.goto (-61)) 3 2, none, none, kJ .return_ 1]
def mK42 : List (Option mI) := [kJ (.iconst 0) 1, kK (.istore_n 2) 1 2, kJ (.iconst 0) 1, kK (.istore_n 3) 1 3, kK (.iload_n 3) 1 3, kJ (.aload_n 0) 1, kI (.getfield 30) 3 5 3 0 0, none, none, kK (.if_icmp .ge 25) 3 34, none, none, kK (.aload_n 1) 1 1, kI (.getfield 40) 3 0 1 0 0, none, none, kK (.iload_n 3) 1 3, kJ .iaload 1, kI (.invokestatic 52) 3 44 1 0 0, none, none, kV (.iconst 3) 1 3, kK (.if_icmp .ne 6) 3 28, none, none, kI (.iinc 2 1) 3 2 0 0 1, none, none, kI (.iinc 3 1) 3 3 0 0 1, none, none, kK (.goto (-27)) 3 4, none, none, kK (.iload_n 2) 1 2, kJ .ireturn 1]
def mK43_0 : List (Option mI) := [kK (.iload_n 2) 1 2, kS (.tableswitch 132 0 7 #[47, 54, 61, 68, 78, 88, 114, 123]) 47 133 [(0, 48), (1, 55), (2, 62), (3, 69), (4, 79), (5, 89), (6, 115), (7, 124)], none, none, none, none, none, none, none, none, none, none, none, none, none, none, none, none, none, none, none, none, none, none, none, none, none, none, none, none, none, none, none, none, none, none, none, none, none, none, none, none, none, none, none, none, none, none, kJ (.aload_n 0) 1, kK (.getfield 9) 3 5, none, none, kK (.iload_n 1) 1 1, kJ .iaload 1, kJ .ireturn 1, kJ (.aload_n 0) 1, kI (.getfield 15) 3 5 1 0 0, none, none, kK (.iload_n 1) 1 1, kJ .iaload 1, kJ .ireturn 1, kK (.aload_n 3) 1 3, kI (.getfield 40) 3 0 1 0 0, none, none, kK (.iload_n 1) 1 1, kJ .iaload 1, kJ .ireturn 1, kK (.aload_n 3) 1 3, kI (.getfield 40) 3 0 1 0 0, none, none, kK (.iload_n 1) 1 1, kJ .iaload 1, kI (.invokestatic 52) 3 44 1 0 0, none, none, kJ .ireturn 1, kK (.iload 4) 2 4, none, kJ (.aload_n 0) 1, kI (.getfield 18) 3 5 2 0 0, none, none, kK (.iload_n 1) 1 1, kJ .iaload 1, kJ .isub 1, kJ .ireturn 1, kJ (.aload_n 0) 1, kK (.getfield 9) 3 5, none, none, kK (.iload_n 1) 1 1, kJ .iaload 1, kI (.invokestatic 56) 3 47 1 0 0, none, none, kV (.bipush 100) 2 100, none, kV (.bipush 25) 2 25, none, kK (.aload_n 3) 1 3, kI (.getfield 40) 3 0 1 0 0, none, none, kK (.iload_n 1) 1 1, kJ .iaload 1, kI (.invokestatic 52) 3 44 1 0 0, none, none, kJ .imul 1, kJ .isub 1, kJ .imul 1, kJ .ireturn 1, kJ (.aload_n 0) 1, kI (.getfield 23) 3 5 4 0 0, none, none, kK (.iload_n 1) 1 1]
def mK43_1 : List (Option mI) := [kJ .aaload 1, kJ (.iconst 0) 1, kJ .iaload 1, kJ .ireturn 1, kJ (.aload_n 0) 1, kI (.getfield 23) 3 5 4 0 0, none, none, kK (.iload_n 1) 1 1, kJ .aaload 1, kV (.iconst 1) 1 1, kJ .iaload 1, kJ .ireturn 1, kJ (.aload_n 0) 1, kI (.getfield 23) 3 5 4 0 0, none, none, kK (.iload_n 1) 1 1, kJ .aaload 1, kV (.iconst 2) 1 2, kJ .iaload 1, kJ .ireturn 1]
def mK43 : List (Option mI) := mK43_0 ++ (mK43_1)
def mK44 : List (Option mI) := [kJ (.iload_n 0) 1, kV (.sipush 600) 3 600, none, none, kK (.if_icmp .lt 5) 3 9, none, none, kV (.iconst 3) 1 3, kJ .ireturn 1, kJ (.iload_n 0) 1, kV (.sipush 300) 3 300, none, none, kK (.if_icmp .lt 5) 3 18, none, none, kV (.iconst 2) 1 2, kJ .ireturn 1, kJ (.iload_n 0) 1, kV (.bipush 100) 2 100, none, kK (.if_icmp .lt 7) 3 28, none, none, kV (.iconst 1) 1 1, kK (.goto 4) 3 29, none, none, kJ (.iconst 0) 1, kJ .ireturn 1]
def mK45 : List (Option mI) := [kJ (.iload_n 0) 1, kS (.tableswitch 72 1 5 #[35, 35, 40, 72, 60]) 35 73 [(1, 36), (2, 36), (3, 41), (4, 73), (5, 61)], none, none, none, none, none, none, none, none, none, none, none, none, none, none, none, none, none, none, none, none, none, none, none, none, none, none, none, none, none, none, none, none, none, none, kK (.iload_n 1) 1 1, kI (.invokestatic 59) 3 46 1 0 0, none, none, kJ .ireturn 1, kK (.iload_n 1) 1 1, kI (.invokestatic 59) 3 46 1 0 0, none, none, kK (.ifCond .ne 7) 3 52, none, none, kJ (.iconst 0) 1, kK (.goto 11) 3 60, none, none, kV (.iconst 2) 1 2, kK (.iload_n 1) 1 1, kI (.invokestatic 59) 3 46 1 0 0, none, none, kJ .imul 1, kV (.iconst 1) 1 1, kJ .iadd 1, kJ .ireturn 1, kK (.iload_n 1) 1 1, kV (.bipush 100) 2 100, none, kK (.if_icmp .le 7) 3 71, none, none, kV (.iconst 1) 1 1, kK (.goto 4) 3 72, none, none, kJ (.iconst 0) 1, kJ .ireturn 1, kJ (.iconst 0) 1, kJ .ireturn 1]
def mK46 : List (Option mI) := [kJ (.iconst 0) 1, kJ (.iload_n 0) 1, kV (.bipush 50) 2 50, none, kJ .iadd 1, kV (.bipush 10) 2 10, none, kI (.invokestatic 62) 3 259 2 0 0, none, none, kI (.invokestatic 67) 3 261 2 0 0, none, none, kJ .ireturn 1]
def mK47 : List (Option mI) := [kV (.bipush 10) 2 10, none, kK (.istore_n 1) 1 1, kK (.iload_n 1) 1 1, kV (.bipush 20) 2 20, none, kJ .iadd 1, kK (.istore_n 2) 1 2, kJ (.iload_n 0) 1, kS (.tableswitch 56 1 5 #[35, 37, 41, 45, 52]) 35 65 [(1, 44), (2, 46), (3, 50), (4, 54), (5, 61)], none, none, none, none, none, none, none, none, none, none, none, none, none, none, none, none, none, none, none, none, none, none, none, none, none, none, none, none, none, none, none, none, none, none, kK (.iload_n 2) 1 2, kJ .ireturn 1, kK (.iload_n 2) 1 2, kV (.iconst 5) 1 5, kJ .iadd 1, kJ .ireturn 1, kV (.iconst 2) 1 2, kK (.iload_n 2) 1 2, kJ .imul 1, kJ .ireturn 1, kV (.iconst 2) 1 2, kK (.iload_n 1) 1 1, kJ .imul 1, kV (.bipush 10) 2 10, none, kJ .isub 1, kJ .ireturn 1, kV (.iconst 3) 1 3, kK (.iload_n 1) 1 1, kJ .imul 1, kJ .ireturn 1, kK (.iload_n 1) 1 1, kJ .ireturn 1]
def mK48 : List (Option mI) := [kJ (.aload_n 0) 1, kI (.invokespecial 3) 3 0 0 1 0, none, none, kJ (.aload_n 0) 1, kV (.iconst 4) 1 4, kJ (.newarray .int) 2, none, kJ .dup 1, kJ (.iconst 0) 1, kV (.bipush 100) 2 100, none, kJ .iastore 1, kJ .dup 1, kV (.iconst 1) 1 1, kV (.iconst 1) 1 1, kJ .iastore 1, kJ .dup 1, kV (.iconst 2) 1 2, kV (.iconst 2) 1 2, kJ .iastore 1, kJ .dup 1, kV (.iconst 3) 1 3, kV (.iconst 3) 1 3, kJ .iastore 1, kI (.putfield 9) 3 6 0 3 0, none, none, kJ (.aload_n 0) 1, kV (.iconst 5) 1 5, kJ (.newarray .int) 2, none, kI (.putfield 15) 3 6 2 3 0, none, none, kJ (.aload_n 0) 1, kV (.iconst 5) 1 5, kJ (.newarray .int) 2, none, kI (.putfield 18) 3 6 3 3 0, none, none, kJ (.aload_n 0) 1, kV (.sipush 200) 3 200, none, none, kJ (.newarray .int) 2, none, kI (.putfield 21) 3 6 4 3 0, none, none, kJ (.aload_n 0) 1, kV (.sipush 200) 3 200, none, none, kJ (.newarray .int) 2, none, kI (.putfield 24) 3 6 5 3 0, none, none, kJ .return_ 1]
def mK49 : List (Option mI) := [kJ (.aload_n 0) 1, kI (.getfield 27) 3 6 1 0 0, none, none, kV (.iconst 5) 1 5, kK (.if_icmp .lt 6) 3 11, none, none, kV (.bipush (-104)) 2 (-104), none, kJ .ireturn 1, kJ (.aload_n 0) 1, kI (.getfield 15) 3 6 2 0 0, none, none, kJ (.aload_n 0) 1, kI (.getfield 27) 3 6 1 0 0, none, none, kK (.iload_n 1) 1 1, kJ .iastore 1, kJ (.aload_n 0) 1, kI (.getfield 18) 3 6 3 0 0, none, none, kJ (.aload_n 0) 1, kI (.getfield 27) 3 6 1 0 0, none, none, kK (.iload_n 2) 1 2, kJ .iastore 1, kJ (.aload_n 0) 1, kJ .dup 1, kI (.getfield 27) 3 6 1 0 0, none, none, kV (.iconst 1) 1 1, kJ .iadd 1, kI (.putfield 27) 3 6 1 0 0, none, none, kJ (.aload_n 0) 1, kI (.getfield 27) 3 6 1 0 0, none, none, kV (.iconst 1) 1 1, kJ .isub 1, kJ .ireturn 1]
def mK50 : List (Option mI) := [kJ (.iconst 0) 1, kK (.istore_n 1) 1 1, kK (.iload_n 1) 1 1, kV (.sipush 200) 3 200, none, none, kK (.if_icmp .ge 71) 3 77, none, none, kJ (.aload_n 0) 1, kI (.getfield 21) 3 6 4 0 0, none, none, kK (.iload_n 1) 1 1, kJ (.iconst 0) 1, kJ (.aload_n 0) 1, kK (.getfield 9) 3 6, none, none, kJ (.iconst 0) 1, kJ .iaload 1, kJ (.aload_n 0) 1, kK (.getfield 9) 3 6, none, none, kV (.iconst 1) 1 1, kJ .iaload 1, kJ (.aload_n 0) 1, kK (.iload_n 1) 1 1, kJ (.aload_n 0) 1, kK (.getfield 9) 3 6, none, none, kV (.iconst 3) 1 3, kJ .iaload 1, kJ .isub 1, kI (.invokevirtual 31) 3 52 2 6 0, none, none, kJ .imul 1, kJ .isub 1, kI (.invokestatic 35) 3 261 2 0 0, none, none, kJ .iastore 1, kJ (.aload_n 0) 1, kI (.getfield 24) 3 6 5 0 0, none, none, kK (.iload_n 1) 1 1, kJ (.aload_n 0) 1, kJ (.aload_n 0) 1, kJ (.aload_n 0) 1, kK (.iload_n 1) 1 1, kJ (.aload_n 0) 1, kK (.getfield 9) 3 6, none, none, kV (.iconst 2) 1 2, kJ .iaload 1, kJ .isub 1, kI (.invokevirtual 41) 3 51 2 6 0, none, none, kI (.invokevirtual 44) 3 53 2 6 0, none, none, kI (.invokevirtual 47) 3 54 2 6 0, none, none, kJ .iastore 1, kI (.iinc 1 1) 3 1 0 0 1, none, none, kK (.goto (-72)) 3 2, none, none, kJ .return_ 1]
def mK51 : List (Option mI) := [kK (.iload_n 1) 1 1, kK (.ifCond .ge 12) 3 13, none, none, kJ (.aload_n 0) 1, kK (.getfield 9) 3 6, none, none, kJ (.iconst 0) 1, kJ .iaload 1, kK (.goto 9) 3 19, none, none, kJ (.aload_n 0) 1, kI (.getfield 21) 3 6 4 0 0, none, none, kK (.iload_n 1) 1 1, kJ .iaload 1, kJ .ireturn 1]
def mK52 : List (Option mI) := [kK (.iload_n 1) 1 1, kK (.ifCond .ge 7) 3 8, none, none, kJ (.iconst 0) 1, kK (.goto 9) 3 14, none, none, kJ (.aload_n 0) 1, kI (.getfield 24) 3 6 5 0 0, none, none, kK (.iload_n 1) 1 1, kJ .iaload 1, kJ .ireturn 1]
def mK53 : List (Option mI) := [kJ (.iconst 0) 1, kK (.istore_n 2) 1 2, kJ (.iconst 0) 1, kK (.istore_n 3) 1 3, kK (.iload_n 3) 1 3, kJ (.aload_n 0) 1, kI (.getfield 27) 3 6 1 0 0, none, none, kK (.if_icmp .ge 25) 3 34, none, none, kK (.iload_n 1) 1 1, kJ (.aload_n 0) 1, kI (.getfield 18) 3 6 3 0 0, none, none, kK (.iload_n 3) 1 3, kJ .iaload 1, kK (.if_icmp .lt 9) 3 28, none, none, kK (.iload_n 2) 1 2, kV (.iconst 1) 1 1, kK (.iload_n 3) 1 3, kJ .ishl 1, kJ .ior 1, kK (.istore_n 2) 1 2, kI (.iinc 3 1) 3 3 0 0 1, none, none, kK (.goto (-27)) 3 4, none, none, kK (.iload_n 2) 1 2, kJ .ireturn 1]
def mK54 : List (Option mI) := [kJ (.iconst 0) 1, kK (.istore_n 2) 1 2, kJ (.iconst 0) 1, kK (.istore_n 3) 1 3, kK (.iload_n 3) 1 3, kJ (.aload_n 0) 1, kI (.getfield 27) 3 6 1 0 0, none, none, kK (.if_icmp .ge 27) 3 36, none, none, kK (.iload_n 1) 1 1, kK (.iload_n 3) 1 3, kJ .ishr 1, kV (.iconst 1) 1 1, kJ .iand 1, kV (.iconst 1) 1 1, kK (.if_icmp .ne 12) 3 30, none, none, kK (.iload_n 2) 1 2, kJ (.aload_n 0) 1, kI (.getfield 15) 3 6 2 0 0, none, none, kK (.iload_n 3) 1 3, kJ .iaload 1, kJ .iadd 1, kK (.istore_n 2) 1 2, kI (.iinc 3 1) 3 3 0 0 1, none, none, kK (.goto (-29)) 3 4, none, none, kK (.iload_n 2) 1 2, kJ .ireturn 1]
def mK55 : List (Option mI) := [kJ (.aload_n 0) 1, kJ (.aload_n 0) 1, kK (.iload_n 1) 1 1, kJ (.aload_n 0) 1, kK (.getfield 9) 3 6, none, none, kV (.iconst 2) 1 2, kJ .iaload 1, kJ .isub 1, kI (.invokevirtual 41) 3 51 2 6 0, none, none, kI (.invokevirtual 44) 3 53 2 6 0, none, none, kK (.istore_n 3) 1 3, kK (.iload_n 2) 1 2, kS (.tableswitch 56 0 2 #[26, 33, 40]) 26 74 [(0, 44), (1, 51), (2, 58)], none, none, none, none, none, none, none, none, none, none, none, none, none, none, none, none, none, none, none, none, none, none, none, none, none, kJ (.aload_n 0) 1, kI (.getfield 21) 3 6 4 0 0, none, none, kK (.iload_n 1) 1 1, kJ .iaload 1, kJ .ireturn 1, kJ (.aload_n 0) 1, kI (.getfield 24) 3 6 5 0 0, none, none, kK (.iload_n 1) 1 1, kJ .iaload 1, kJ .ireturn 1, kK (.iload_n 3) 1 3, kJ (.aload_n 0) 1, kJ (.aload_n 0) 1, kI (.getfield 21) 3 6 4 0 0, none, none, kK (.iload_n 1) 1 1, kJ .iaload 1, kI (.invokevirtual 44) 3 53 2 6 0, none, none, kJ .ixor 1, kI (.invokestatic 50) 3 258 1 0 0, none, none, kJ .ireturn 1, kK (.iload_n 3) 1 3, kJ .ireturn 1]
def mK56 : List (Option mI) := [kJ (.iconst 0) 1, kK (.istore_n 2) 1 2, kK (.iload_n 2) 1 2, kV (.sipush 200) 3 200, none, none, kK (.if_icmp .ge 47) 3 53, none, none, kK (.iload_n 2) 1 2, kV (.iconst 1) 1 1, kJ .iadd 1, kK (.istore_n 3) 1 3, kK (.iload_n 3) 1 3, kV (.sipush 200) 3 200, none, none, kK (.if_icmp .ge 30) 3 47, none, none, kJ (.aload_n 0) 1, kK (.iload_n 2) 1 2, kK (.iload_n 3) 1 3, kI (.invokevirtual 55) 3 57 3 6 0, none, none, kK (.ifCond .eq 15) 3 41, none, none, kK (.iload_n 1) 1 1, kK (.ifCond .ne 7) 3 37, none, none, kK (.iload_n 2) 1 2, kK (.goto 6) 3 40, none, none, kK (.iload_n 3) 1 3, kK (.iload_n 2) 1 2, kJ .isub 1, kJ .ireturn 1, kI (.iinc 3 1) 3 3 0 0 1, none, none, kK (.goto (-31)) 3 13, none, none, kI (.iinc 2 1) 3 2 0 0 1, none, none, kK (.goto (-48)) 3 2, none, none, kV (.iconst (-1)) 1 (-1), kJ .ireturn 1]
def mK57 : List (Option mI) := [kV (.iconst 1) 1 1, kK (.istore_n 3) 1 3, kK (.iload_n 3) 1 3, kJ (.aload_n 0) 1, kK (.getfield 9) 3 6, none, none, kV (.iconst 3) 1 3, kJ .iaload 1, kK (.if_icmp .gt 28) 3 37, none, none, kJ (.aload_n 0) 1, kK (.iload_n 1) 1 1, kK (.iload_n 3) 1 3, kJ .isub 1, kI (.invokevirtual 31) 3 52 2 6 0, none, none, kJ (.aload_n 0) 1, kK (.iload_n 2) 1 2, kK (.iload_n 3) 1 3, kJ .isub 1, kI (.invokevirtual 31) 3 52 2 6 0, none, none, kK (.if_icmp .eq 5) 3 31, none, none, kJ (.iconst 0) 1, kJ .ireturn 1, kI (.iinc 3 1) 3 3 0 0 1, none, none, kK (.goto (-32)) 3 2, none, none, kV (.iconst 1) 1 1, kK (.istore_n 3) 1 3, kK (.iload_n 3) 1 3, kJ (.aload_n 0) 1, kK (.getfield 9) 3 6, none, none, kV (.iconst 2) 1 2, kJ .iaload 1, kK (.if_icmp .gt 28) 3 74, none, none, kJ (.aload_n 0) 1, kK (.iload_n 1) 1 1, kK (.iload_n 3) 1 3, kJ .isub 1, kI (.invokevirtual 41) 3 51 2 6 0, none, none, kJ (.aload_n 0) 1, kK (.iload_n 2) 1 2, kK (.iload_n 3) 1 3, kJ .isub 1, kI (.invokevirtual 41) 3 51 2 6 0, none, none, kK (.if_icmp .eq 5) 3 68, none, none, kJ (.iconst 0) 1, kJ .ireturn 1, kI (.iinc 3 1) 3 3 0 0 1, none, none, kK (.goto (-32)) 3 39, none, none, kV (.iconst 1) 1 1, kJ .ireturn 1]
def mK58 : List (Option mI) := [kK (.lload_n 1) 1 1, kJ (.aload_n 0) 1, kK (.getfield 9) 3 6, none, none, kV (.iconst 4) 1 4, kI (.invokestatic 59) 3 107 3 0 0, none, none, kK (.lstore_n 1) 1 1, kJ (.iconst 0) 1, kK (.istore_n 3) 1 3, kK (.iload_n 3) 1 3, kJ (.aload_n 0) 1, kI (.getfield 27) 3 6 1 0 0, none, none, kK (.if_icmp .ge 33) 3 50, none, none, kK (.lload_n 1) 1 1, kJ (.aload_n 0) 1, kI (.getfield 15) 3 6 2 0 0, none, none, kK (.iload_n 3) 1 3, kJ .iaload 1, kJ .i2l 1, kI (.invokestatic 63) 3 106 2 0 0, none, none, kK (.lstore_n 1) 1 1, kK (.lload_n 1) 1 1, kJ (.aload_n 0) 1, kI (.getfield 18) 3 6 3 0 0, none, none, kK (.iload_n 3) 1 3, kJ .iaload 1, kJ .i2l 1, kI (.invokestatic 63) 3 106 2 0 0, none, none, kK (.lstore_n 1) 1 1, kI (.iinc 3 1) 3 3 0 0 1, none, none, kK (.goto (-35)) 3 12, none, none, kK (.lload_n 1) 1 1, kJ .lreturn 1]
def mK59 : List (Option mI) := [kJ (.aload_n 0) 1, kI (.invokespecial 3) 3 0 0 1 0, none, none, kJ (.aload_n 0) 1, kV (.iconst 5) 1 5, kI (.putfield 9) 3 7 1 0 0, none, none, kJ (.aload_n 0) 1, kV (.bipush 24) 2 24, none, kJ (.newarray .int) 2, none, kI (.putfield 15) 3 7 2 3 0, none, none, kJ (.aload_n 0) 1, kV (.bipush 24) 2 24, none, kJ (.newarray .int) 2, none, kI (.putfield 19) 3 7 3 3 0, none, none, kJ .return_ 1]
def mK60 : List (Option mI) := [kJ (.aload_n 0) 1, kK (.getfield 22) 3 7, none, none, kV (.bipush 24) 2 24, none, kK (.if_icmp .lt 6) 3 12, none, none, kV (.bipush (-104)) 2 (-104), none, kJ .ireturn 1, kJ (.aload_n 0) 1, kI (.getfield 15) 3 7 2 0 0, none, none, kJ (.aload_n 0) 1, kK (.getfield 22) 3 7, none, none, kK (.iload_n 1) 1 1, kJ .iastore 1, kJ (.aload_n 0) 1, kI (.getfield 19) 3 7 3 0 0, none, none, kJ (.aload_n 0) 1, kK (.getfield 22) 3 7, none, none, kK (.iload_n 2) 1 2, kJ .iastore 1, kJ (.aload_n 0) 1, kJ .dup 1, kK (.getfield 22) 3 7, none, none, kV (.iconst 1) 1 1, kJ .iadd 1, kK (.putfield 22) 3 7, none, none, kJ (.aload_n 0) 1, kK (.getfield 22) 3 7, none, none, kJ .ireturn 1]
def mK61 : List (Option mI) := [kJ (.aload_n 0) 1, kI (.getfield 19) 3 7 3 0 0, none, none, kK (.iload_n 1) 1 1, kJ .iaload 1, kV (.sipush (-999)) 3 (-999), none, none, kK (.if_icmp .eq 7) 3 16, none, none, kV (.iconst 1) 1 1, kK (.goto 4) 3 17, none, none, kJ (.iconst 0) 1, kJ .ireturn 1]
def mK62 : List (Option mI) := [kJ (.iconst 0) 1, kK (.istore_n 1) 1 1, kK (.iload_n 1) 1 1, kJ (.aload_n 0) 1, kK (.getfield 22) 3 7, none, none, kK (.if_icmp .ge 82) 3 89, none, none, kJ (.iconst 0) 1, kK (.istore_n 2) 1 2, kK (.iload_n 2) 1 2, kK (.iload_n 1) 1 1, kK (.if_icmp .ge 69) 3 83, none, none, kJ (.aload_n 0) 1, kI (.getfield 19) 3 7 3 0 0, none, none, kK (.iload_n 1) 1 1, kJ .iaload 1, kJ (.aload_n 0) 1, kI (.getfield 19) 3 7 3 0 0, none, none, kK (.iload_n 2) 1 2, kJ .iaload 1, kJ .isub 1, kI (.invokestatic 25) 3 260 1 0 0, none, none, kK (.istore_n 3) 1 3, kJ (.aload_n 0) 1, kK (.iload_n 1) 1 1, kI (.invokevirtual 31) 3 61 2 7 0, none, none, kK (.ifCond .eq 38) 3 77, none, none, kJ (.aload_n 0) 1, kK (.iload_n 2) 1 2, kI (.invokevirtual 31) 3 61 2 7 0, none, none, kK (.ifCond .eq 30) 3 77, none, none, kK (.iload_n 3) 1 3, kJ (.aload_n 0) 1, kI (.getfield 9) 3 7 1 0 0, none, none, kJ (.aload_n 0) 1, kI (.getfield 15) 3 7 2 0 0, none, none, kK (.iload_n 1) 1 1, kJ .iaload 1, kJ (.aload_n 0) 1, kI (.getfield 15) 3 7 2 0 0, none, none, kK (.iload_n 2) 1 2, kJ .iaload 1, kJ .isub 1, kI (.invokestatic 25) 3 260 1 0 0, none, none, kJ .imul 1, kK (.if_icmp .le 5) 3 77, none, none, kJ (.iconst 0) 1, kJ .ireturn 1, kI (.iinc 2 1) 3 2 0 0 1, none, none, kK (.goto (-68)) 3 12, none, none, kI (.iinc 1 1) 3 1 0 0 1, none, none, kK (.goto (-84)) 3 2, none, none, kV (.iconst 1) 1 1, kJ .ireturn 1]
def mK63 : List (Option mI) := [kV (.sipush (-300)) 3 (-300), none, none, kK (.istore_n 2) 1 2, kJ (.iconst 0) 1, kK (.istore_n 3) 1 3, kK (.iload_n 3) 1 3, kJ (.aload_n 0) 1, kK (.getfield 22) 3 7, none, none, kK (.if_icmp .ge 45) 3 56, none, none, kJ (.aload_n 0) 1, kK (.iload_n 3) 1 3, kI (.invokevirtual 31) 3 61 2 7 0, none, none, kK (.ifCond .eq 31) 3 50, none, none, kK (.iload_n 2) 1 2, kJ (.aload_n 0) 1, kI (.getfield 19) 3 7 3 0 0, none, none, kK (.iload_n 3) 1 3, kJ .iaload 1, kJ (.aload_n 0) 1, kI (.getfield 9) 3 7 1 0 0, none, none, kK (.iload_n 1) 1 1, kJ (.aload_n 0) 1, kI (.getfield 15) 3 7 2 0 0, none, none, kK (.iload_n 3) 1 3, kJ .iaload 1, kJ .isub 1, kI (.invokestatic 25) 3 260 1 0 0, none, none, kJ .imul 1, kJ .isub 1, kI (.invokestatic 35) 3 261 2 0 0, none, none, kK (.istore_n 2) 1 2, kI (.iinc 3 1) 3 3 0 0 1, none, none, kK (.goto (-47)) 3 6, none, none, kK (.iload_n 2) 1 2, kJ .ireturn 1]
def mK64 : List (Option mI) := [kV (.sipush 600) 3 600, none, none, kK (.istore_n 2) 1 2, kJ (.iconst 0) 1, kK (.istore_n 3) 1 3, kK (.iload_n 3) 1 3, kJ (.aload_n 0) 1, kK (.getfield 22) 3 7, none, none, kK (.if_icmp .ge 45) 3 56, none, none, kJ (.aload_n 0) 1, kK (.iload_n 3) 1 3, kI (.invokevirtual 31) 3 61 2 7 0, none, none, kK (.ifCond .eq 31) 3 50, none, none, kK (.iload_n 2) 1 2, kJ (.aload_n 0) 1, kI (.getfield 19) 3 7 3 0 0, none, none, kK (.iload_n 3) 1 3, kJ .iaload 1, kJ (.aload_n 0) 1, kI (.getfield 9) 3 7 1 0 0, none, none, kK (.iload_n 1) 1 1, kJ (.aload_n 0) 1, kI (.getfield 15) 3 7 2 0 0, none, none, kK (.iload_n 3) 1 3, kJ .iaload 1, kJ .isub 1, kI (.invokestatic 25) 3 260 1 0 0, none, none, kJ .imul 1, kJ .iadd 1, kI (.invokestatic 39) 3 262 2 0 0, none, none, kK (.istore_n 2) 1 2, kI (.iinc 3 1) 3 3 0 0 1, none, none, kK (.goto (-47)) 3 6, none, none, kK (.iload_n 2) 1 2, kJ .ireturn 1]
def mK65 : List (Option mI) := [kJ (.iconst 0) 1, kK (.istore 4) 2 4, none, kK (.iload_n 1) 1 1, kK (.istore 5) 2 5, none, kK (.iload 5) 2 5, none, kK (.iload_n 2) 1 2, kK (.if_icmp .gt 34) 3 43, none, none, kJ (.aload_n 0) 1, kK (.iload 5) 2 5, none, kI (.invokevirtual 42) 3 63 2 7 0, none, none, kK (.iload_n 3) 1 3, kK (.if_icmp .le 5) 3 24, none, none, kV (.iconst 2) 1 2, kJ .ireturn 1, kJ (.aload_n 0) 1, kK (.iload 5) 2 5, none, kI (.invokevirtual 45) 3 64 2 7 0, none, none, kK (.iload_n 3) 1 3, kK (.if_icmp .le 6) 3 37, none, none, kV (.iconst 1) 1 1, kK (.istore 4) 2 4, none, kI (.iinc 5 1) 3 5 0 0 1, none, none, kK (.goto (-34)) 3 6, none, none, kK (.iload 4) 2 4, none, kJ .ireturn 1]
def mK66 : List (Option mI) := [kK (.lload_n 1) 1 1, kJ (.aload_n 0) 1, kI (.getfield 9) 3 7 1 0 0, none, none, kJ .i2l 1, kI (.invokestatic 48) 3 106 2 0 0, none, none, kK (.lstore_n 1) 1 1, kJ (.iconst 0) 1, kK (.istore_n 3) 1 3, kK (.iload_n 3) 1 3, kJ (.aload_n 0) 1, kK (.getfield 22) 3 7, none, none, kK (.if_icmp .ge 33) 3 50, none, none, kK (.lload_n 1) 1 1, kJ (.aload_n 0) 1, kI (.getfield 15) 3 7 2 0 0, none, none, kK (.iload_n 3) 1 3, kJ .iaload 1, kJ .i2l 1, kI (.invokestatic 48) 3 106 2 0 0, none, none, kK (.lstore_n 1) 1 1, kK (.lload_n 1) 1 1, kJ (.aload_n 0) 1, kI (.getfield 19) 3 7 3 0 0, none, none, kK (.iload_n 3) 1 3, kJ .iaload 1, kJ .i2l 1, kI (.invokestatic 48) 3 106 2 0 0, none, none, kK (.lstore_n 1) 1 1, kI (.iinc 3 1) 3 3 0 0 1, none, none, kK (.goto (-35)) 3 12, none, none, kK (.lload_n 1) 1 1, kJ .lreturn 1]
def mK67 : List (Option mI) := [kJ (.aload_n 0) 1, kI (.invokespecial 3) 3 0 0 1 0, none, none, kJ (.aload_n 0) 1, kV (.iconst 4) 1 4, kJ (.newarray .int) 2, none, kJ .dup 1, kJ (.iconst 0) 1, kV (.bipush 50) 2 50, none, kJ .iastore 1, kJ .dup 1, kV (.iconst 1) 1 1, kV (.iconst 2) 1 2, kJ .iastore 1, kJ .dup 1, kV (.iconst 2) 1 2, kV (.bipush 80) 2 80, none, kJ .iastore 1, kJ .dup 1, kV (.iconst 3) 1 3, kV (.bipush 10) 2 10, none, kJ .iastore 1, kI (.putfield 9) 3 8 0 3 0, none, none, kJ (.aload_n 0) 1, kV (.iconst 5) 1 5, kJ (.newarray .int) 2, none, kI (.putfield 15) 3 8 2 3 0, none, none, kJ (.aload_n 0) 1, kV (.iconst 5) 1 5, kJ (.newarray .int) 2, none, kI (.putfield 18) 3 8 3 3 0, none, none, kJ .return_ 1]
def mK68 : List (Option mI) := [kJ (.aload_n 0) 1, kI (.getfield 21) 3 8 1 0 0, none, none, kV (.iconst 5) 1 5, kK (.if_icmp .lt 6) 3 11, none, none, kV (.bipush (-104)) 2 (-104), none, kJ .ireturn 1, kJ (.aload_n 0) 1, kI (.getfield 15) 3 8 2 0 0, none, none, kJ (.aload_n 0) 1, kI (.getfield 21) 3 8 1 0 0, none, none, kK (.iload_n 1) 1 1, kJ .iastore 1, kJ (.aload_n 0) 1, kI (.getfield 18) 3 8 3 0 0, none, none, kJ (.aload_n 0) 1, kI (.getfield 21) 3 8 1 0 0, none, none, kK (.iload_n 2) 1 2, kJ .iastore 1, kJ (.aload_n 0) 1, kJ .dup 1, kI (.getfield 21) 3 8 1 0 0, none, none, kV (.iconst 1) 1 1, kJ .iadd 1, kI (.putfield 21) 3 8 1 0 0, none, none, kJ (.aload_n 0) 1, kI (.getfield 21) 3 8 1 0 0, none, none, kV (.iconst 1) 1 1, kJ .isub 1, kJ .ireturn 1]
def mK69 : List (Option mI) := [kV (.iconst 1) 1 1, kJ (.aload_n 0) 1, kI (.getfield 21) 3 8 1 0 0, none, none, kJ .ishl 1, kJ .ireturn 1]
def mK70 : List (Option mI) := [kK (.iload_n 1) 1 1, kJ (.iload_n 0) 1, kJ .ishr 1, kV (.iconst 1) 1 1, kJ .iand 1, kV (.iconst 1) 1 1, kK (.if_icmp .ne 7) 3 13, none, none, kV (.iconst 1) 1 1, kK (.goto 4) 3 14, none, none, kJ (.iconst 0) 1, kJ .ireturn 1]
def mK71 : List (Option mI) := [kJ (.iconst 0) 1, kK (.istore_n 2) 1 2, kJ (.iconst 0) 1, kK (.istore_n 3) 1 3, kK (.iload_n 3) 1 3, kJ (.aload_n 0) 1, kI (.getfield 21) 3 8 1 0 0, none, none, kK (.if_icmp .ge 26) 3 35, none, none, kK (.iload_n 3) 1 3, kK (.iload_n 1) 1 1, kI (.invokestatic 25) 3 70 2 0 0, none, none, kK (.ifCond .eq 12) 3 29, none, none, kK (.iload_n 2) 1 2, kJ (.aload_n 0) 1, kI (.getfield 15) 3 8 2 0 0, none, none, kK (.iload_n 3) 1 3, kJ .iaload 1, kJ .iadd 1, kK (.istore_n 2) 1 2, kI (.iinc 3 1) 3 3 0 0 1, none, none, kK (.goto (-28)) 3 4, none, none, kK (.iload_n 2) 1 2, kJ .ireturn 1]
def mK72 : List (Option mI) := [kJ (.aload_n 0) 1, kK (.getfield 9) 3 8, none, none, kJ (.iconst 0) 1, kJ .iaload 1, kJ (.aload_n 0) 1, kK (.getfield 9) 3 8, none, none, kV (.iconst 1) 1 1, kJ .iaload 1, kJ (.aload_n 0) 1, kK (.iload_n 2) 1 2, kI (.invokevirtual 29) 3 71 2 8 0, none, none, kJ .imul 1, kJ .iadd 1, kJ (.aload_n 0) 1, kI (.getfield 18) 3 8 3 0 0, none, none, kK (.iload_n 1) 1 1, kJ .iaload 1, kJ .isub 1, kJ .i2l 1, kK (.lstore_n 3) 1 3, kK (.iload_n 1) 1 1, kK (.iload_n 2) 1 2, kI (.invokestatic 25) 3 70 2 0 0, none, none, kK (.ifCond .eq 21) 3 54, none, none, kK (.lload_n 3) 1 3, kJ (.aload_n 0) 1, kI (.getfield 15) 3 8 2 0 0, none, none, kK (.iload_n 1) 1 1, kJ .iaload 1, kJ .i2l 1, kJ .lmul 1, kJ (.aload_n 0) 1, kK (.getfield 9) 3 8, none, none, kV (.iconst 2) 1 2, kJ .iaload 1, kJ .i2l 1, kJ .lmul 1, kJ .lreturn 1, kK (.lload_n 3) 1 3, kJ (.aload_n 0) 1, kK (.getfield 9) 3 8, none, none, kV (.iconst 3) 1 3, kJ .iaload 1, kJ .i2l 1, kJ .lsub 1, kJ (.aload_n 0) 1, kI (.getfield 15) 3 8 2 0 0, none, none, kK (.iload_n 1) 1 1, kJ .iaload 1, kJ .i2l 1, kJ .lmul 1, kW (.ldc2_w 33) 3 100, none, none, kJ .lmul 1, kJ .lreturn 1]
def mK73 : List (Option mI) := [kJ (.iconst 0) 1, kK (.istore_n 2) 1 2, kK (.iload_n 2) 1 2, kJ (.aload_n 0) 1, kI (.getfield 21) 3 8 1 0 0, none, none, kK (.if_icmp .ge 31) 3 38, none, none, kJ (.aload_n 0) 1, kK (.iload_n 2) 1 2, kK (.iload_n 1) 1 1, kV (.iconst 1) 1 1, kK (.iload_n 2) 1 2, kJ .ishl 1, kJ .ixor 1, kI (.invokevirtual 35) 3 72 3 8 0, none, none, kJ (.aload_n 0) 1, kK (.iload_n 2) 1 2, kK (.iload_n 1) 1 1, kI (.invokevirtual 35) 3 72 3 8 0, none, none, kJ .lcmp 1, kK (.ifCond .le 5) 3 32, none, none, kJ (.iconst 0) 1, kJ .ireturn 1, kI (.iinc 2 1) 3 2 0 0 1, none, none, kK (.goto (-33)) 3 2, none, none, kV (.iconst 1) 1 1, kJ .ireturn 1]
def mK74 : List (Option mI) := [kJ (.iconst 0) 1, kK (.istore_n 1) 1 1, kJ (.iconst 0) 1, kK (.istore_n 2) 1 2, kK (.iload_n 2) 1 2, kJ (.aload_n 0) 1, kI (.invokevirtual 39) 3 69 1 8 0, none, none, kK (.if_icmp .ge 20) 3 29, none, none, kJ (.aload_n 0) 1, kK (.iload_n 2) 1 2, kI (.invokevirtual 43) 3 73 2 8 0, none, none, kK (.ifCond .eq 6) 3 23, none, none, kI (.iinc 1 1) 3 1 0 0 1, none, none, kI (.iinc 2 1) 3 2 0 0 1, none, none, kK (.goto (-22)) 3 4, none, none, kK (.iload_n 1) 1 1, kJ .ireturn 1]
def mK75 : List (Option mI) := [kV (.iconst (-1)) 1 (-1), kK (.istore_n 1) 1 1, kV (.iconst (-1)) 1 (-1), kK (.istore_n 2) 1 2, kJ (.iconst 0) 1, kK (.istore_n 3) 1 3, kK (.iload_n 3) 1 3, kJ (.aload_n 0) 1, kI (.invokevirtual 39) 3 69 1 8 0, none, none, kK (.if_icmp .ge 34) 3 45, none, none, kJ (.aload_n 0) 1, kK (.iload_n 3) 1 3, kI (.invokevirtual 29) 3 71 2 8 0, none, none, kK (.iload_n 2) 1 2, kK (.if_icmp .le 19) 3 39, none, none, kJ (.aload_n 0) 1, kK (.iload_n 3) 1 3, kI (.invokevirtual 43) 3 73 2 8 0, none, none, kK (.ifCond .eq 11) 3 39, none, none, kK (.iload_n 3) 1 3, kK (.istore_n 1) 1 1, kJ (.aload_n 0) 1, kK (.iload_n 3) 1 3, kI (.invokevirtual 29) 3 71 2 8 0, none, none, kK (.istore_n 2) 1 2, kI (.iinc 3 1) 3 3 0 0 1, none, none, kK (.goto (-36)) 3 6, none, none, kK (.iload_n 1) 1 1, kJ .ireturn 1]
def mK76 : List (Option mI) := [kJ (.iconst 0) 1, kK (.istore_n 3) 1 3, kK (.iload_n 3) 1 3, kJ (.aload_n 0) 1, kI (.getfield 21) 3 8 1 0 0, none, none, kK (.if_icmp .ge 33) 3 40, none, none, kK (.lload_n 1) 1 1, kJ (.aload_n 0) 1, kI (.getfield 15) 3 8 2 0 0, none, none, kK (.iload_n 3) 1 3, kJ .iaload 1, kJ .i2l 1, kI (.invokestatic 47) 3 106 2 0 0, none, none, kK (.lstore_n 1) 1 1, kK (.lload_n 1) 1 1, kJ (.aload_n 0) 1, kI (.getfield 18) 3 8 3 0 0, none, none, kK (.iload_n 3) 1 3, kJ .iaload 1, kJ .i2l 1, kI (.invokestatic 47) 3 106 2 0 0, none, none, kK (.lstore_n 1) 1 1, kI (.iinc 3 1) 3 3 0 0 1, none, none, kK (.goto (-35)) 3 2, none, none, kK (.lload_n 1) 1 1, kJ (.aload_n 0) 1, kK (.getfield 9) 3 8, none, none, kV (.iconst 4) 1 4, kI (.invokestatic 51) 3 107 3 0 0, none, none, kJ .lreturn 1]
def mK77 : List (Option mI) := [kJ (.aload_n 0) 1, kI (.invokespecial 3) 3 0 0 1 0, none, none, kJ (.aload_n 0) 1, kV (.bipush 8) 2 8, none, kJ (.newarray .int) 2, none, kI (.putfield 11) 3 9 0 3 0, none, none, kJ (.aload_n 0) 1, kV (.iconst 4) 1 4, kJ (.newarray .int) 2, none, kI (.putfield 15) 3 9 5 3 0, none, none, kJ (.aload_n 0) 1, kV (.bipush 8) 2 8, none, kJ (.newarray .int) 2, none, kI (.putfield 18) 3 9 6 3 0, none, none, kJ (.aload_n 0) 1, kV (.bipush 8) 2 8, none, kJ (.newarray .int) 2, none, kI (.putfield 21) 3 9 7 3 0, none, none, kJ .return_ 1]
def mK78 : List (Option mI) := [kJ (.aload_n 0) 1, kI (.getfield 24) 3 9 1 0 0, none, none, kV (.bipush 8) 2 8, none, kK (.if_icmp .lt 6) 3 12, none, none, kV (.bipush (-104)) 2 (-104), none, kJ .ireturn 1, kJ (.aload_n 0) 1, kK (.getfield 11) 3 9, none, none, kJ (.aload_n 0) 1, kI (.getfield 24) 3 9 1 0 0, none, none, kK (.iload_n 1) 1 1, kJ .iastore 1, kJ (.aload_n 0) 1, kJ .dup 1, kI (.getfield 24) 3 9 1 0 0, none, none, kV (.iconst 1) 1 1, kJ .iadd 1, kI (.putfield 24) 3 9 1 0 0, none, none, kJ (.aload_n 0) 1, kI (.getfield 24) 3 9 1 0 0, none, none, kJ .ireturn 1]
def mK79 : List (Option mI) := [kK (.iload_n 1) 1 1, kJ (.aload_n 0) 1, kI (.getfield 24) 3 9 1 0 0, none, none, kK (.if_icmp .ge 12) 3 17, none, none, kJ (.aload_n 0) 1, kI (.getfield 21) 3 9 7 0 0, none, none, kK (.iload_n 1) 1 1, kJ .iaload 1, kK (.goto 4) 3 18, none, none, kV (.iconst (-1)) 1 (-1), kJ .ireturn 1]
def mK80 : List (Option mI) := [kJ (.aload_n 0) 1, kK (.iload_n 1) 1 1, kI (.putfield 28) 3 9 3 0 0, none, none, kJ (.aload_n 0) 1, kK (.iload_n 2) 1 2, kI (.putfield 31) 3 9 4 0 0, none, none, kJ (.aload_n 0) 1, kJ (.aload_n 0) 1, kI (.getfield 24) 3 9 1 0 0, none, none, kV (.iconst 1) 1 1, kJ .iadd 1, kI (.putfield 34) 3 9 2 0 0, none, none, kJ (.aload_n 0) 1, kJ (.iconst 0) 1, kJ (.iconst 0) 1, kJ (.iconst 0) 1, kI (.invokestatic 37) 3 81 4 0 0, none, none, kJ (.aload_n 0) 1, kI (.getfield 34) 3 9 2 0 0, none, none, kJ (.aload_n 0) 1, kI (.getfield 24) 3 9 1 0 0, none, none, kK (.if_icmp .gt 7) 3 42, none, none, kV (.iconst 1) 1 1, kK (.goto 4) 3 43, none, none, kJ (.iconst 0) 1, kJ .ireturn 1]
def mK81_0 : List (Option mI) := [kK (.iload_n 3) 1 3, kI (.invokestatic 41) 3 258 1 0 0, none, none, kJ (.aload_n 0) 1, kI (.getfield 34) 3 9 2 0 0, none, none, kK (.if_icmp .lt 4) 3 12, none, none, kJ .return_ 1, kK (.iload_n 1) 1 1, kJ (.aload_n 0) 1, kI (.getfield 24) 3 9 1 0 0, none, none, kK (.if_icmp .lt 29) 3 46, none, none, kJ (.aload_n 0) 1, kK (.iload_n 3) 1 3, kI (.invokestatic 41) 3 258 1 0 0, none, none, kI (.putfield 34) 3 9 2 0 0, none, none, kJ (.aload_n 0) 1, kI (.getfield 18) 3 9 6 0 0, none, none, kJ (.iconst 0) 1, kJ (.aload_n 0) 1, kI (.getfield 21) 3 9 7 0 0, none, none, kJ (.iconst 0) 1, kJ (.aload_n 0) 1, kI (.getfield 24) 3 9 1 0 0, none, none, kI (.invokestatic 47) 3 0 0 1 0, none, none, kJ .return_ 1, kK (.iload_n 2) 1 2, kV (.iconst 1) 1 1, kJ .iadd 1, kJ (.aload_n 0) 1, kI (.getfield 28) 3 9 3 0 0, none, none, kI (.invokestatic 53) 3 262 2 0 0, none, none, kK (.istore 4) 2 4, none, kJ (.iconst 0) 1, kK (.istore 5) 2 5, none, kK (.iload 5) 2 5, none, kK (.iload 4) 2 4, none, kK (.if_icmp .ge 75) 3 140, none, none, kJ (.aload_n 0) 1, kI (.getfield 15) 3 9 5 0 0, none, none, kK (.iload 5) 2 5, none, kJ .iaload 1, kJ (.aload_n 0) 1, kI (.getfield 31) 3 9 4 0 0, none, none, kK (.if_icmp .ge 55) 3 134, none, none, kJ (.aload_n 0) 1, kI (.getfield 15) 3 9 5 0 0, none, none, kK (.iload 5) 2 5, none, kJ .dup2 1, kJ .iaload 1, kV (.iconst 1) 1 1, kJ .iadd 1, kJ .iastore 1, kJ (.aload_n 0) 1, kI (.getfield 18) 3 9 6 0 0, none, none, kK (.iload_n 1) 1 1, kK (.iload 5) 2 5, none, kJ .iastore 1, kJ (.aload_n 0) 1, kK (.iload_n 1) 1 1, kV (.iconst 1) 1 1, kJ .iadd 1, kK (.iload_n 2) 1 2, kK (.iload 5) 2 5, none, kV (.iconst 1) 1 1, kJ .iadd 1, kI (.invokestatic 59) 3 261 2 0 0, none, none, kK (.iload_n 3) 1 3, kJ (.aload_n 0) 1, kK (.iload_n 1) 1 1, kI (.invokevirtual 62) 3 82 2 9 0, none, none, kJ .ior 1]
def mK81_1 : List (Option mI) := [kI (.invokestatic 37) 3 81 4 0 0, none, none, kJ (.aload_n 0) 1, kI (.getfield 15) 3 9 5 0 0, none, none, kK (.iload 5) 2 5, none, kJ .dup2 1, kJ .iaload 1, kV (.iconst 1) 1 1, kJ .isub 1, kJ .iastore 1, kI (.iinc 5 1) 3 5 0 0 1, none, none, kK (.goto (-76)) 3 61, none, none, kJ .return_ 1]
def mK81 : List (Option mI) := mK81_0 ++ (mK81_1)
def mK82 : List (Option mI) := [kJ (.iconst 0) 1, kK (.istore_n 2) 1 2, kJ (.iconst 0) 1, kK (.istore_n 3) 1 3, kK (.iload_n 3) 1 3, kK (.iload_n 1) 1 1, kK (.if_icmp .ge 45) 3 51, none, none, kJ (.aload_n 0) 1, kI (.getfield 18) 3 9 6 0 0, none, none, kK (.iload_n 3) 1 3, kJ .iaload 1, kJ (.aload_n 0) 1, kI (.getfield 18) 3 9 6 0 0, none, none, kK (.iload_n 1) 1 1, kJ .iaload 1, kK (.if_icmp .ne 24) 3 45, none, none, kJ (.aload_n 0) 1, kK (.getfield 11) 3 9, none, none, kK (.iload_n 3) 1 3, kJ .iaload 1, kJ (.aload_n 0) 1, kK (.getfield 11) 3 9, none, none, kK (.iload_n 1) 1 1, kJ .iaload 1, kK (.if_icmp .ge 9) 3 45, none, none, kK (.iload_n 2) 1 2, kV (.iconst 1) 1 1, kK (.iload_n 3) 1 3, kJ .ishl 1, kJ .ior 1, kK (.istore_n 2) 1 2, kI (.iinc 3 1) 3 3 0 0 1, none, none, kK (.goto (-44)) 3 4, none, none, kK (.iload_n 2) 1 2, kJ .ireturn 1]
def mK83 : List (Option mI) := [kJ (.aload_n 0) 1, kI (.invokespecial 3) 3 0 0 1 0, none, none, kJ (.aload_n 0) 1, kV (.bipush 60) 2 60, none, kJ (.newarray .int) 2, none, kI (.putfield 11) 3 10 0 3 0, none, none, kJ (.aload_n 0) 1, kV (.bipush 12) 2 12, none, kV (.bipush 60) 2 60, none, kJ (.multianewarray 15 2) 4, none, none, none, kI (.putfield 17) 3 10 7 3 0, none, none, kJ (.aload_n 0) 1, kV (.bipush 12) 2 12, none, kJ (.newarray .int) 2, none, kI (.putfield 20) 3 10 8 3 0, none, none, kJ (.aload_n 0) 1, kV (.bipush 12) 2 12, none, kJ (.newarray .int) 2, none, kI (.putfield 23) 3 10 9 3 0, none, none, kJ (.aload_n 0) 1, kV (.bipush 60) 2 60, none, kK (.newarray .long) 2 3, none, kI (.putfield 26) 3 10 10 3 0, none, none, kJ (.aload_n 0) 1, kV (.bipush 60) 2 60, none, kK (.newarray .long) 2 3, none, kI (.putfield 30) 3 10 11 3 0, none, none, kJ .return_ 1]
def mK84 : List (Option mI) := [kJ (.iconst 0) 1, kK (.istore_n 2) 1 2, kJ (.iconst 0) 1, kK (.istore_n 3) 1 3, kJ (.iconst 0) 1, kK (.istore 4) 2 4, none, kK (.iload 4) 2 4, none, kV (.bipush 8) 2 8, none, kK (.if_icmp .ge 48) 3 59, none, none, kJ (.lload_n 0) 1, kK (.iload 4) 2 4, none, kI (.invokestatic 33) 3 85 2 0 0, none, none, kK (.istore 5) 2 5, none, kK (.iload 5) 2 5, none, kV (.bipush 126) 2 126, none, kK (.if_icmp .gt 12) 3 38, none, none, kK (.iload_n 3) 1 3, kK (.ifCond .eq 10) 3 40, none, none, kK (.iload 5) 2 5, none, kK (.ifCond .eq 5) 3 40, none, none, kV (.iconst (-1)) 1 (-1), kJ .ireturn 1, kK (.iload 5) 2 5, none, kK (.ifCond .ne 8) 3 50, none, none, kV (.iconst 1) 1 1, kK (.istore_n 3) 1 3, kK (.goto 6) 3 53, none, none, kI (.iinc 2 1) 3 2 0 0 1, none, none, kI (.iinc 4 1) 3 4 0 0 1, none, none, kK (.goto (-49)) 3 7, none, none, kK (.iload_n 2) 1 2, kJ .ireturn 1]
def mK85 : List (Option mI) := [kJ (.lload_n 0) 1, kV (.bipush 8) 2 8, none, kK (.iload_n 2) 1 2, kJ .imul 1, kJ .lushr 1, kJ .l2i 1, kV (.sipush 255) 3 255, none, none, kJ .iand 1, kJ .ireturn 1]
def mK86 : List (Option mI) := [kJ (.aload_n 0) 1, kI (.getfield 37) 3 10 1 0 0, none, none, kK (.iload_n 3) 1 3, kJ .iadd 1, kV (.bipush 60) 2 60, none, kK (.if_icmp .le 6) 3 14, none, none, kV (.bipush (-104)) 2 (-104), none, kJ .ireturn 1, kJ (.iconst 0) 1, kK (.istore 4) 2 4, none, kK (.iload 4) 2 4, none, kK (.iload_n 3) 1 3, kK (.if_icmp .ge 34) 3 54, none, none, kJ (.aload_n 0) 1, kK (.getfield 11) 3 10, none, none, kJ (.aload_n 0) 1, kI (.getfield 37) 3 10 1 0 0, none, none, kK (.lload_n 1) 1 1, kK (.iload 4) 2 4, none, kI (.invokestatic 33) 3 85 2 0 0, none, none, kJ .iastore 1, kJ (.aload_n 0) 1, kJ .dup 1, kI (.getfield 37) 3 10 1 0 0, none, none, kV (.iconst 1) 1 1, kJ .iadd 1, kI (.putfield 37) 3 10 1 0 0, none, none, kI (.iinc 4 1) 3 4 0 0 1, none, none, kK (.goto (-34)) 3 17, none, none, kJ (.aload_n 0) 1, kI (.getfield 37) 3 10 1 0 0, none, none, kJ .ireturn 1]
def mK87 : List (Option mI) := [kJ (.aload_n 0) 1, kJ (.iconst 0) 1, kI (.putfield 41) 3 10 12 0 0, none, none, kJ (.aload_n 0) 1, kJ (.iconst 0) 1, kI (.putfield 44) 3 10 13 0 0, none, none, kJ (.aload_n 0) 1, kV (.iconst (-1)) 1 (-1), kI (.putfield 47) 3 10 14 0 0, none, none, kJ (.iconst 0) 1, kK (.istore_n 1) 1 1, kK (.iload_n 1) 1 1, kJ (.aload_n 0) 1, kI (.getfield 37) 3 10 1 0 0, none, none, kK (.if_icmp .ge 34) 3 56, none, none, kJ (.aload_n 0) 1, kJ (.aload_n 0) 1, kJ (.aload_n 0) 1, kK (.getfield 11) 3 10, none, none, kK (.iload_n 1) 1 1, kJ .iaload 1, kK (.iload_n 1) 1 1, kI (.invokevirtual 50) 3 88 3 10 0, none, none, kI (.putfield 41) 3 10 12 0 0, none, none, kJ (.aload_n 0) 1, kI (.getfield 41) 3 10 12 0 0, none, none, kV (.iconst (-1)) 1 (-1), kK (.if_icmp .ne 5) 3 50, none, none, kK (.iload_n 1) 1 1, kJ .ireturn 1, kI (.iinc 1 1) 3 1 0 0 1, none, none, kK (.goto (-36)) 3 17, none, none, kJ (.aload_n 0) 1, kI (.getfield 37) 3 10 1 0 0, none, none, kJ .ireturn 1]
def mK88 : List (Option mI) := [kJ (.aload_n 0) 1, kI (.getfield 41) 3 10 12 0 0, none, none, kS (.tableswitch 60 0 2 #[28, 42, 54]) 28 64 [(0, 32), (1, 46), (2, 58)], none, none, none, none, none, none, none, none, none, none, none, none, none, none, none, none, none, none, none, none, none, none, none, none, none, none, none, kK (.iload_n 1) 1 1, kI (.invokestatic 54) 3 92 1 0 0, none, none, kV (.iconst (-1)) 1 (-1), kK (.if_icmp .ne 7) 3 44, none, none, kV (.iconst (-1)) 1 (-1), kK (.goto 4) 3 45, none, none, kV (.iconst 1) 1 1, kJ .ireturn 1, kK (.iload_n 1) 1 1, kV (.bipush 58) 2 58, none, kK (.if_icmp .ne 7) 3 56, none, none, kV (.iconst 2) 1 2, kK (.goto 4) 3 57, none, none, kV (.iconst (-1)) 1 (-1), kJ .ireturn 1, kJ (.aload_n 0) 1, kK (.iload_n 1) 1 1, kI (.invokevirtual 58) 3 89 2 10 0, none, none, kJ .ireturn 1, kJ (.aload_n 0) 1, kK (.iload_n 1) 1 1, kK (.iload_n 2) 1 2, kI (.invokevirtual 61) 3 90 3 10 0, none, none, kJ .ireturn 1]
def mK89 : List (Option mI) := [kK (.iload_n 1) 1 1, kI (.invokestatic 64) 3 91 1 0 0, none, none, kK (.ifCond .eq 5) 3 9, none, none, kV (.iconst 5) 1 5, kJ .ireturn 1, kK (.iload_n 1) 1 1, kV (.bipush 40) 2 40, none, kK (.if_icmp .ne 15) 3 27, none, none, kJ (.aload_n 0) 1, kJ .dup 1, kI (.getfield 44) 3 10 13 0 0, none, none, kV (.iconst 1) 1 1, kJ .iadd 1, kI (.putfield 44) 3 10 13 0 0, none, none, kV (.iconst 2) 1 2, kJ .ireturn 1, kK (.iload_n 1) 1 1, kV (.bipush 114) 2 114, none, kK (.if_icmp .eq 21) 3 51, none, none, kK (.iload_n 1) 1 1, kV (.bipush 116) 2 116, none, kK (.if_icmp .eq 15) 3 51, none, none, kK (.iload_n 1) 1 1, kV (.bipush 104) 2 104, none, kK (.if_icmp .eq 9) 3 51, none, none, kK (.iload_n 1) 1 1, kV (.bipush 107) 2 107, none, kK (.if_icmp .ne 7) 3 55, none, none, kV (.iconst 3) 1 3, kK (.goto 4) 3 56, none, none, kV (.iconst (-1)) 1 (-1), kJ .ireturn 1]
def mK90 : List (Option mI) := [kK (.iload_n 1) 1 1, kI (.invokestatic 64) 3 91 1 0 0, none, none, kK (.ifCond .eq 22) 3 26, none, none, kJ (.aload_n 0) 1, kI (.getfield 41) 3 10 12 0 0, none, none, kV (.iconst 3) 1 3, kK (.if_icmp .le 12) 3 24, none, none, kJ (.aload_n 0) 1, kI (.getfield 41) 3 10 12 0 0, none, none, kV (.iconst 1) 1 1, kJ .isub 1, kK (.goto 4) 3 25, none, none, kV (.iconst (-1)) 1 (-1), kJ .ireturn 1, kK (.iload_n 1) 1 1, kV (.bipush 43) 2 43, none, kK (.if_icmp .eq 15) 3 44, none, none, kK (.iload_n 1) 1 1, kV (.bipush 45) 2 45, none, kK (.if_icmp .eq 9) 3 44, none, none, kK (.iload_n 1) 1 1, kV (.bipush 42) 2 42, none, kK (.if_icmp .ne 5) 3 46, none, none, kV (.iconst 2) 1 2, kJ .ireturn 1, kK (.iload_n 1) 1 1, kV (.bipush 41) 2 41, none, kK (.if_icmp .ne 22) 3 71, none, none, kJ (.aload_n 0) 1, kI (.getfield 44) 3 10 13 0 0, none, none, kK (.ifCond .le 15) 3 71, none, none, kJ (.aload_n 0) 1, kJ .dup 1, kI (.getfield 44) 3 10 13 0 0, none, none, kV (.iconst 1) 1 1, kJ .isub 1, kI (.putfield 44) 3 10 13 0 0, none, none, kV (.iconst 3) 1 3, kJ .ireturn 1, kK (.iload_n 1) 1 1, kV (.bipush 60) 2 60, none, kK (.if_icmp .eq 15) 3 89, none, none, kK (.iload_n 1) 1 1, kV (.bipush 61) 2 61, none, kK (.if_icmp .eq 9) 3 89, none, none, kK (.iload_n 1) 1 1, kV (.bipush 62) 2 62, none, kK (.if_icmp .ne 25) 3 111, none, none, kJ (.aload_n 0) 1, kI (.getfield 44) 3 10 13 0 0, none, none, kK (.ifCond .ne 18) 3 111, none, none, kJ (.aload_n 0) 1, kI (.getfield 47) 3 10 14 0 0, none, none, kV (.iconst (-1)) 1 (-1), kK (.if_icmp .ne 10) 3 111, none, none, kJ (.aload_n 0) 1, kK (.iload_n 2) 1 2, kI (.putfield 47) 3 10 14 0 0, none, none, kV (.iconst 2) 1 2, kJ .ireturn 1, kV (.iconst (-1)) 1 (-1), kJ .ireturn 1]
def mK91 : List (Option mI) := [kJ (.iload_n 0) 1, kV (.bipush 48) 2 48, none, kV (.bipush 57) 2 57, none, kI (.invokestatic 68) 3 102 3 0 0, none, none, kJ .ireturn 1]
def mK92 : List (Option mI) := [kJ (.iload_n 0) 1, kS (.lookupswitch 41 #[(67, 39), (83, 37), (87, 35)]) 35 42 [(67, 40), (83, 38), (87, 36)], none, none, none, none, none, none, none, none, none, none, none, none, none, none, none, none, none, none, none, none, none, none, none, none, none, none, none, none, none, none, none, none, none, none, kJ (.iconst 0) 1, kJ .ireturn 1, kV (.iconst 1) 1 1, kJ .ireturn 1, kV (.iconst 2) 1 2, kJ .ireturn 1, kV (.iconst (-1)) 1 (-1), kJ .ireturn 1]
def mK93 : List (Option mI) := [kJ (.aload_n 0) 1, kI (.invokevirtual 72) 3 87 1 10 0, none, none, kJ (.aload_n 0) 1, kI (.getfield 37) 3 10 1 0 0, none, none, kK (.if_icmp .ne 30) 3 38, none, none, kJ (.aload_n 0) 1, kI (.getfield 41) 3 10 12 0 0, none, none, kV (.iconst 3) 1 3, kK (.if_icmp .lt 22) 3 38, none, none, kJ (.aload_n 0) 1, kI (.getfield 44) 3 10 13 0 0, none, none, kK (.ifCond .ne 15) 3 38, none, none, kJ (.aload_n 0) 1, kI (.getfield 47) 3 10 14 0 0, none, none, kV (.iconst (-1)) 1 (-1), kK (.if_icmp .eq 7) 3 38, none, none, kV (.iconst 1) 1 1, kK (.goto 4) 3 39, none, none, kJ (.iconst 0) 1, kJ .ireturn 1]
def mK94 : List (Option mI) := [kJ (.aload_n 0) 1, kI (.getfield 76) 3 10 2 0 0, none, none, kV (.bipush 12) 2 12, none, kK (.if_icmp .lt 6) 3 12, none, none, kV (.bipush (-104)) 2 (-104), none, kJ .ireturn 1, kJ (.aload_n 0) 1, kK (.getfield 11) 3 10, none, none, kJ (.iconst 0) 1, kJ (.aload_n 0) 1, kI (.getfield 17) 3 10 7 0 0, none, none, kJ (.aload_n 0) 1, kI (.getfield 76) 3 10 2 0 0, none, none, kJ .aaload 1, kJ (.iconst 0) 1, kJ (.aload_n 0) 1, kI (.getfield 37) 3 10 1 0 0, none, none, kI (.invokestatic 79) 3 0 0 1 0, none, none, kJ (.aload_n 0) 1, kI (.getfield 20) 3 10 8 0 0, none, none, kJ (.aload_n 0) 1, kI (.getfield 76) 3 10 2 0 0, none, none, kJ (.aload_n 0) 1, kI (.getfield 37) 3 10 1 0 0, none, none, kJ .iastore 1, kJ (.aload_n 0) 1, kI (.getfield 23) 3 10 9 0 0, none, none, kJ (.aload_n 0) 1, kI (.getfield 76) 3 10 2 0 0, none, none, kJ (.aload_n 0) 1, kI (.getfield 47) 3 10 14 0 0, none, none, kJ .iastore 1, kJ (.aload_n 0) 1, kJ (.iconst 0) 1, kI (.putfield 37) 3 10 1 0 0, none, none, kJ (.aload_n 0) 1, kJ .dup 1, kI (.getfield 76) 3 10 2 0 0, none, none, kV (.iconst 1) 1 1, kJ .iadd 1, kI (.putfield 76) 3 10 2 0 0, none, none, kJ (.aload_n 0) 1, kI (.getfield 76) 3 10 2 0 0, none, none, kV (.iconst 1) 1 1, kJ .isub 1, kJ .ireturn 1]
def mK95 : List (Option mI) := [kJ (.aload_n 0) 1, kI (.getfield 76) 3 10 2 0 0, none, none, kV (.iconst 1) 1 1, kJ .isub 1, kK (.istore_n 2) 1 2, kK (.iload_n 2) 1 2, kK (.ifCond .lt 26) 3 34, none, none, kJ (.aload_n 0) 1, kI (.getfield 17) 3 10 7 0 0, none, none, kK (.iload_n 2) 1 2, kJ .aaload 1, kJ (.iconst 0) 1, kJ .iaload 1, kI (.invokestatic 54) 3 92 1 0 0, none, none, kK (.iload_n 1) 1 1, kK (.if_icmp .ne 5) 3 28, none, none, kK (.iload_n 2) 1 2, kJ .ireturn 1, kI (.iinc 2 (-1)) 3 2 0 0 (-1), none, none, kK (.goto (-24)) 3 7, none, none, kV (.iconst (-1)) 1 (-1), kJ .ireturn 1]
def mK96 : List (Option mI) := [kJ (.aload_n 0) 1, kI (.getfield 17) 3 10 7 0 0, none, none, kK (.iload_n 1) 1 1, kJ .aaload 1, kJ (.aload_n 0) 1, kI (.getfield 23) 3 10 9 0 0, none, none, kK (.iload_n 1) 1 1, kJ .iaload 1, kJ .iaload 1, kS (.lookupswitch 53 #[(60, 27), (61, 40)]) 27 66 [(60, 40), (61, 53)], none, none, none, none, none, none, none, none, none, none, none, none, none, none, none, none, none, none, none, none, none, none, none, none, none, none, kK (.lload_n 2) 1 2, kK (.lload 4) 2 4, none, kJ .lcmp 1, kK (.ifCond .ge 7) 3 51, none, none, kV (.iconst 1) 1 1, kK (.goto 4) 3 52, none, none, kJ (.iconst 0) 1, kJ .ireturn 1, kK (.lload_n 2) 1 2, kK (.lload 4) 2 4, none, kJ .lcmp 1, kK (.ifCond .ne 7) 3 64, none, none, kV (.iconst 1) 1 1, kK (.goto 4) 3 65, none, none, kJ (.iconst 0) 1, kJ .ireturn 1, kK (.lload_n 2) 1 2, kK (.lload 4) 2 4, none, kJ .lcmp 1, kK (.ifCond .le 7) 3 77, none, none, kV (.iconst 1) 1 1, kK (.goto 4) 3 78, none, none, kJ (.iconst 0) 1, kJ .ireturn 1]
def mK97 : List (Option mI) := [kK (.iload_n 2) 1 2, kK (.ifCond .ne 23) 3 24, none, none, kJ (.aload_n 0) 1, kJ (.aload_n 0) 1, kI (.getfield 17) 3 10 7 0 0, none, none, kK (.iload_n 1) 1 1, kJ .aaload 1, kV (.iconst 2) 1 2, kJ (.aload_n 0) 1, kI (.getfield 23) 3 10 9 0 0, none, none, kK (.iload_n 1) 1 1, kJ .iaload 1, kI (.invokevirtual 85) 3 98 4 10 0, none, none, kK (.goto 27) 3 48, none, none, kJ (.aload_n 0) 1, kJ (.aload_n 0) 1, kI (.getfield 17) 3 10 7 0 0, none, none, kK (.iload_n 1) 1 1, kJ .aaload 1, kJ (.aload_n 0) 1, kI (.getfield 23) 3 10 9 0 0, none, none, kK (.iload_n 1) 1 1, kJ .iaload 1, kV (.iconst 1) 1 1, kJ .iadd 1, kJ (.aload_n 0) 1, kI (.getfield 20) 3 10 8 0 0, none, none, kK (.iload_n 1) 1 1, kJ .iaload 1, kI (.invokevirtual 85) 3 98 4 10 0, none, none, kJ .lreturn 1]
def mK98_0 : List (Option mI) := [kJ (.iconst 0) 1, kK (.istore 4) 2 4, none, kJ (.iconst 0) 1, kK (.istore 5) 2 5, none, kJ (.aload_n 0) 1, kJ (.iconst 0) 1, kI (.invokevirtual 89) 3 99 2 10 0, none, none, kK (.iload_n 2) 1 2, kK (.istore 6) 2 6, none, kK (.iload 6) 2 6, none, kK (.iload_n 3) 1 3, kK (.if_icmp .ge 227) 3 244, none, none, kK (.aload_n 1) 1 1, kK (.iload 6) 2 6, none, kJ .iaload 1, kK (.istore 7) 2 7, none, kK (.iload 7) 2 7, none, kI (.invokestatic 64) 3 91 1 0 0, none, none, kK (.ifCond .eq 55) 3 86, none, none, kV (.bipush 10) 2 10, none, kK (.iload 5) 2 5, none, kJ .imul 1, kK (.iload 7) 2 7, none, kJ .iadd 1, kV (.bipush 48) 2 48, none, kJ .isub 1, kK (.istore 5) 2 5, none, kK (.iload 6) 2 6, none, kV (.iconst 1) 1 1, kJ .iadd 1, kK (.iload_n 3) 1 3, kK (.if_icmp .ge 15) 3 67, none, none, kK (.aload_n 1) 1 1, kK (.iload 6) 2 6, none, kV (.iconst 1) 1 1, kJ .iadd 1, kJ .iaload 1, kI (.invokestatic 64) 3 91 1 0 0, none, none, kK (.ifCond .ne 174) 3 238, none, none, kJ (.aload_n 0) 1, kI (.getfield 30) 3 10 11 0 0, none, none, kK (.iload 4) 2 4, none, kJ .dup2 1, kJ .laload 1, kK (.iload 5) 2 5, none, kJ .i2l 1, kJ .lmul 1, kJ .lastore 1, kJ (.iconst 0) 1, kK (.istore 5) 2 5, none, kK (.goto 155) 3 238, none, none, kK (.iload 7) 2 7, none, kV (.bipush 40) 2 40, none, kK (.if_icmp .ne 22) 3 112, none, none, kK (.iload 4) 2 4, none, kV (.bipush 59) 2 59, none, kK (.if_icmp .ge 15) 3 112, none, none, kI (.iinc 4 1) 3 4 0 0 1, none, none, kJ (.aload_n 0) 1, kK (.iload 4) 2 4, none, kI (.invokevirtual 89) 3 99 2 10 0, none, none, kK (.goto 129) 3 238, none, none, kK (.iload 7) 2 7, none, kV (.bipush 41) 2 41, none, kK (.if_icmp .ne 43) 3 159, none, none, kK (.iload 4) 2 4]
def mK98_1 : List (Option mI) := [none, kK (.ifCond .le 38) 3 159, none, none, kI (.iinc 4 (-1)) 3 4 0 0 (-1), none, none, kJ (.aload_n 0) 1, kI (.getfield 30) 3 10 11 0 0, none, none, kK (.iload 4) 2 4, none, kJ .dup2 1, kJ .laload 1, kJ (.aload_n 0) 1, kI (.getfield 26) 3 10 10 0 0, none, none, kK (.iload 4) 2 4, none, kV (.iconst 1) 1 1, kJ .iadd 1, kJ .laload 1, kJ (.aload_n 0) 1, kI (.getfield 30) 3 10 11 0 0, none, none, kK (.iload 4) 2 4, none, kV (.iconst 1) 1 1, kJ .iadd 1, kJ .laload 1, kJ .ladd 1, kJ .lmul 1, kJ .lastore 1, kK (.goto 82) 3 238, none, none, kK (.iload 7) 2 7, none, kV (.bipush 43) 2 43, none, kK (.if_icmp .eq 10) 3 173, none, none, kK (.iload 7) 2 7, none, kV (.bipush 45) 2 45, none, kK (.if_icmp .ne 44) 3 214, none, none, kJ (.aload_n 0) 1, kI (.getfield 26) 3 10 10 0 0, none, none, kK (.iload 4) 2 4, none, kJ .dup2 1, kJ .laload 1, kJ (.aload_n 0) 1, kI (.getfield 30) 3 10 11 0 0, none, none, kK (.iload 4) 2 4, none, kJ .laload 1, kJ .ladd 1, kJ .lastore 1, kJ (.aload_n 0) 1, kI (.getfield 30) 3 10 11 0 0, none, none, kK (.iload 4) 2 4, none, kK (.iload 7) 2 7, none, kV (.bipush 43) 2 43, none, kK (.if_icmp .ne 7) 3 207, none, none, kW (.lconst 1) 1 1, kK (.goto 6) 3 210, none, none, kW (.ldc2_w 93) 3 (-1), none, none, kJ .lastore 1, kK (.goto 27) 3 238, none, none, kK (.iload 7) 2 7, none, kV (.bipush 42) 2 42, none, kK (.if_icmp .eq 20) 3 238, none, none, kJ (.aload_n 0) 1, kI (.getfield 30) 3 10 11 0 0, none, none, kK (.iload 4) 2 4, none, kJ .dup2 1, kJ .laload 1, kJ (.aload_n 0) 1, kK (.iload 7) 2 7, none, kI (.invokevirtual 95) 3 100 2 10 0, none, none, kJ .i2l 1, kJ .lmul 1, kJ .lastore 1, kI (.iinc 6 1) 3 6 0 0 1, none]
def mK98_2 : List (Option mI) := [none, kK (.goto (-227)) 3 14, none, none, kJ (.aload_n 0) 1, kI (.getfield 26) 3 10 10 0 0, none, none, kJ (.iconst 0) 1, kJ .laload 1, kJ (.aload_n 0) 1, kI (.getfield 30) 3 10 11 0 0, none, none, kJ (.iconst 0) 1, kJ .laload 1, kJ .ladd 1, kJ .lreturn 1]
def mK98 : List (Option mI) := mK98_0 ++ (mK98_1 ++ (mK98_2))
def mK99 : List (Option mI) := [kJ (.aload_n 0) 1, kI (.getfield 26) 3 10 10 0 0, none, none, kK (.iload_n 1) 1 1, kJ (.lconst 0) 1, kJ .lastore 1, kJ (.aload_n 0) 1, kI (.getfield 30) 3 10 11 0 0, none, none, kK (.iload_n 1) 1 1, kW (.lconst 1) 1 1, kJ .lastore 1, kJ .return_ 1]
def mK100 : List (Option mI) := [kK (.iload_n 1) 1 1, kS (.lookupswitch 50 #[(104, 45), (114, 35), (116, 40)]) 35 51 [(104, 46), (114, 36), (116, 41)], none, none, none, none, none, none, none, none, none, none, none, none, none, none, none, none, none, none, none, none, none, none, none, none, none, none, none, none, none, none, none, none, none, none, kJ (.aload_n 0) 1, kI (.getfield 98) 3 10 3 0 0, none, none, kJ .ireturn 1, kJ (.aload_n 0) 1, kI (.getfield 101) 3 10 4 0 0, none, none, kJ .ireturn 1, kJ (.aload_n 0) 1, kI (.getfield 104) 3 10 5 0 0, none, none, kJ .ireturn 1, kJ (.aload_n 0) 1, kI (.getfield 107) 3 10 6 0 0, none, none, kJ .ireturn 1]
def mK101_0 : List (Option mI) := [kJ (.aload_n 0) 1, kI (.invokespecial 1) 3 0 0 1 0, none, none, kJ (.aload_n 0) 1, kI (.new 7) 3 4 8 0 0, none, none, kJ .dup 1, kI (.invokespecial 9) 3 28 1 0 0, none, none, kI (.putfield 10) 3 11 0 3 0, none, none, kJ (.aload_n 0) 1, kI (.new 16) 3 0 4 0 0, none, none, kJ .dup 1, kI (.invokespecial 18) 3 0 1 0 0, none, none, kI (.putfield 19) 3 11 1 3 0, none, none, kJ (.aload_n 0) 1, kI (.new 16) 3 0 4 0 0, none, none, kJ .dup 1, kI (.invokespecial 18) 3 0 1 0 0, none, none, kI (.putfield 23) 3 11 2 3 0, none, none, kJ (.aload_n 0) 1, kI (.new 26) 3 5 5 0 0, none, none, kJ .dup 1, kI (.invokespecial 28) 3 35 1 0 0, none, none, kI (.putfield 29) 3 11 3 3 0, none, none, kJ (.aload_n 0) 1, kI (.new 33) 3 10 15 0 0, none, none, kJ .dup 1, kI (.invokespecial 35) 3 83 1 0 0, none, none, kI (.putfield 36) 3 11 4 3 0, none, none, kJ (.aload_n 0) 1, kI (.new 40) 3 7 4 0 0, none, none, kJ .dup 1, kI (.invokespecial 42) 3 59 1 0 0, none, none, kI (.putfield 43) 3 11 5 3 0, none, none, kJ (.aload_n 0) 1, kI (.new 47) 3 9 8 0 0, none, none, kJ .dup 1, kI (.invokespecial 49) 3 77 1 0 0, none, none, kI (.putfield 50) 3 11 6 3 0, none, none, kJ (.aload_n 0) 1, kI (.new 54) 3 2 11 0 0, none, none, kJ .dup 1, kI (.invokespecial 56) 3 12 1 0 0, none, none, kI (.putfield 57) 3 11 7 3 0, none, none, kJ (.aload_n 0) 1, kI (.new 61) 3 6 6 0 0, none, none, kJ .dup 1, kI (.invokespecial 63) 3 48 1 0 0, none, none, kI (.putfield 64) 3 11 8 3 0, none, none, kJ (.aload_n 0) 1, kI (.new 68) 3 3 5 0 0, none, none, kJ .dup 1, kI (.invokespecial 70) 3 20 1 0 0, none, none, kI (.putfield 71) 3 11 9 3 0, none, none, kJ (.aload_n 0) 1, kI (.new 75) 3 8 4 0 0, none, none, kJ .dup 1, kI (.invokespecial 77) 3 67 1 0 0]
def mK101_1 : List (Option mI) := [none, none, kI (.putfield 78) 3 11 10 3 0, none, none, kJ (.aload_n 0) 1, kI (.new 82) 3 1 3 0 0, none, none, kJ .dup 1, kI (.invokespecial 84) 3 4 1 0 0, none, none, kI (.putfield 85) 3 11 11 3 0, none, none, kJ .return_ 1]
def mK101 : List (Option mI) := mK101_0 ++ (mK101_1)
def mK102 : List (Option mI) := [kK (.iload_n 1) 1 1, kJ (.iload_n 0) 1, kK (.if_icmp .gt 12) 3 14, none, none, kJ (.iload_n 0) 1, kK (.iload_n 2) 1 2, kK (.if_icmp .gt 7) 3 14, none, none, kV (.iconst 1) 1 1, kK (.goto 4) 3 15, none, none, kJ (.iconst 0) 1, kJ .ireturn 1]
def mK103 : List (Option mI) := [kJ (.iload_n 0) 1, kJ (.iconst 0) 1, kV (.bipush 11) 2 11, none, kI (.invokestatic 89) 3 102 3 0 0, none, none, kJ .ireturn 1]
def mK104 : List (Option mI) := [kJ (.iload_n 0) 1, kV (.sipush (-300)) 3 (-300), none, none, kV (.sipush 600) 3 600, none, none, kI (.invokestatic 89) 3 102 3 0 0, none, none, kJ .ireturn 1]
def mK105 : List (Option mI) := [kJ (.aload_n 0) 1, kK (.iload_n 1) 1 1, kJ .iaload 1, kK (.istore_n 3) 1 3, kJ (.aload_n 0) 1, kK (.iload_n 1) 1 1, kK (.iload_n 2) 1 2, kJ .iastore 1, kK (.iload_n 3) 1 3, kJ .ireturn 1]
def mK106 : List (Option mI) := [kW (.ldc2_w 93) 3 31, none, none, kJ (.lload_n 0) 1, kJ .lmul 1, kK (.lload_n 2) 1 2, kJ .ladd 1, kJ .lreturn 1]
def mK107 : List (Option mI) := [kJ (.iconst 0) 1, kK (.istore 4) 2 4, none, kK (.iload 4) 2 4, none, kK (.iload_n 3) 1 3, kK (.if_icmp .ge 19) 3 25, none, none, kJ (.lload_n 0) 1, kK (.aload_n 2) 1 2, kK (.iload 4) 2 4, none, kJ .iaload 1, kJ .i2l 1, kI (.invokestatic 95) 3 106 2 0 0, none, none, kJ (.lstore_n 0) 1, kI (.iinc 4 1) 3 4 0 0 1, none, none, kK (.goto (-19)) 3 3, none, none, kJ (.lload_n 0) 1, kJ .lreturn 1]
def mK108 : List (Option mI) := [kK (.iload_n 1) 1 1, kV (.iconst 1) 1 1, kV (.sipush 200) 3 200, none, none, kI (.invokestatic 89) 3 102 3 0 0, none, none, kK (.ifCond .eq 15) 3 23, none, none, kK (.iload_n 2) 1 2, kV (.bipush (-50)) 2 (-50), none, kV (.sipush 400) 3 400, none, none, kI (.invokestatic 89) 3 102 3 0 0, none, none, kK (.ifCond .ne 6) 3 26, none, none, kV (.bipush (-102)) 2 (-102), none, kJ .ireturn 1, kJ (.aload_n 0) 1, kK (.getfield 10) 3 11, none, none, kI (.getfield 99) 3 4 4 0 0, none, none, kK (.ifCond .le 6) 3 39, none, none, kV (.bipush (-103)) 2 (-103), none, kJ .ireturn 1, kJ (.aload_n 0) 1, kK (.getfield 10) 3 11, none, none, kK (.iload_n 1) 1 1, kK (.iload_n 2) 1 2, kI (.invokevirtual 103) 3 29 3 4 0, none, none, kJ .ireturn 1]
def mK109 : List (Option mI) := [kK (.iload_n 1) 1 1, kI (.invokestatic 107) 3 103 1 0 0, none, none, kK (.ifCond .ne 7) 3 11, none, none, kV (.sipush (-1001)) 3 (-1001), none, none, kJ .ireturn 1, kK (.iload_n 2) 1 2, kI (.invokestatic 111) 3 104 1 0 0, none, none, kK (.ifCond .ne 7) 3 22, none, none, kV (.sipush (-1002)) 3 (-1002), none, none, kJ .ireturn 1, kJ (.aload_n 0) 1, kI (.getfield 19) 3 11 1 0 0, none, none, kJ (.getfield 114) 3, none, none, kK (.iload_n 1) 1 1, kK (.iload_n 2) 1 2, kI (.invokestatic 118) 3 105 3 0 0, none, none, kJ .ireturn 1]
def mK110 : List (Option mI) := [kK (.iload_n 1) 1 1, kI (.invokestatic 107) 3 103 1 0 0, none, none, kK (.ifCond .eq 15) 3 19, none, none, kJ (.aload_n 0) 1, kI (.getfield 19) 3 11 1 0 0, none, none, kJ (.getfield 114) 3, none, none, kK (.iload_n 1) 1 1, kJ .iaload 1, kK (.goto 6) 3 22, none, none, kV (.sipush (-1001)) 3 (-1001), none, none, kJ .ireturn 1]
def mK111 : List (Option mI) := [kK (.iload_n 1) 1 1, kI (.invokestatic 107) 3 103 1 0 0, none, none, kK (.ifCond .ne 6) 3 10, none, none, kV (.bipush (-101)) 2 (-101), none, kJ .ireturn 1, kK (.iload_n 2) 1 2, kJ (.iconst 0) 1, kV (.bipush 20) 2 20, none, kI (.invokestatic 89) 3 102 3 0 0, none, none, kK (.ifCond .ne 6) 3 23, none, none, kV (.bipush (-102)) 2 (-102), none, kJ .ireturn 1, kJ (.aload_n 0) 1, kK (.getfield 10) 3 11, none, none, kK (.getfield 122) 3 4, none, none, kK (.iload_n 1) 1 1, kK (.iload_n 2) 1 2, kI (.invokestatic 118) 3 105 3 0 0, none, none, kJ .ireturn 1]
def mK112 : List (Option mI) := [kK (.iload_n 1) 1 1, kI (.invokestatic 107) 3 103 1 0 0, none, none, kK (.ifCond .ne 6) 3 10, none, none, kV (.bipush (-101)) 2 (-101), none, kJ .ireturn 1, kJ (.aload_n 0) 1, kK (.getfield 10) 3 11, none, none, kI (.getfield 125) 3 4 1 0 0, none, none, kK (.iload_n 1) 1 1, kK (.iload_n 2) 1 2, kK (.ifCond .eq 7) 3 26, none, none, kV (.iconst 1) 1 1, kK (.goto 4) 3 27, none, none, kJ (.iconst 0) 1, kI (.invokestatic 118) 3 105 3 0 0, none, none, kJ .ireturn 1]
def mK113 : List (Option mI) := [kK (.iload_n 1) 1 1, kJ (.iconst 0) 1, kV (.iconst 3) 1 3, kI (.invokestatic 89) 3 102 3 0 0, none, none, kK (.ifCond .ne 6) 3 12, none, none, kV (.bipush (-101)) 2 (-101), none, kJ .ireturn 1, kK (.iload_n 2) 1 2, kJ (.getstatic 128) 3, none, none, kK (.iload_n 1) 1 1, kJ .iaload 1, kK (.getstatic 131) 3 1, none, none, kK (.iload_n 1) 1 1, kJ .iaload 1, kI (.invokestatic 89) 3 102 3 0 0, none, none, kK (.ifCond .ne 6) 3 32, none, none, kV (.bipush (-102)) 2 (-102), none, kJ .ireturn 1, kK (.iload_n 1) 1 1, kV (.iconst 3) 1 3, kK (.if_icmp .ne 21) 3 55, none, none, kJ (.aload_n 0) 1, kI (.getfield 19) 3 11 1 0 0, none, none, kI (.getfield 134) 3 0 2 0 0, none, none, kK (.istore_n 3) 1 3, kJ (.aload_n 0) 1, kI (.getfield 19) 3 11 1 0 0, none, none, kK (.iload_n 2) 1 2, kI (.putfield 134) 3 0 2 0 0, none, none, kK (.iload_n 3) 1 3, kJ .ireturn 1, kJ (.aload_n 0) 1, kK (.getfield 10) 3 11, none, none, kI (.getfield 137) 3 4 2 0 0, none, none, kK (.iload_n 1) 1 1, kK (.iload_n 2) 1 2, kI (.invokestatic 118) 3 105 3 0 0, none, none, kJ .ireturn 1]
def mK114 : List (Option mI) := [kK (.iload_n 1) 1 1, kV (.iconst (-1)) 1 (-1), kK (.if_icmp .eq 17) 3 19, none, none, kK (.iload_n 1) 1 1, kJ (.iconst 0) 1, kV (.sipush 1200) 3 1200, none, none, kI (.invokestatic 89) 3 102 3 0 0, none, none, kK (.ifCond .ne 6) 3 19, none, none, kV (.bipush (-102)) 2 (-102), none, kJ .ireturn 1, kJ (.aload_n 0) 1, kK (.getfield 10) 3 11, none, none, kK (.iload_n 1) 1 1, kV (.iconst (-1)) 1 (-1), kK (.if_icmp .ne 8) 3 33, none, none, kV (.ldc 140) 2 1000000, none, kK (.goto 12) 3 42, none, none, kJ (.aload_n 0) 1, kK (.getfield 10) 3 11, none, none, kI (.getfield 99) 3 4 4 0 0, none, none, kK (.iload_n 1) 1 1, kJ .iadd 1, kI (.putfield 141) 3 4 5 0 0, none, none, kV (.iconst 1) 1 1, kJ .ireturn 1]
def mK115 : List (Option mI) := [kK (.iload_n 1) 1 1, kJ (.iconst 0) 1, kV (.sipush 9999) 3 9999, none, none, kI (.invokestatic 89) 3 102 3 0 0, none, none, kK (.ifCond .eq 14) 3 22, none, none, kJ (.aload_n 0) 1, kK (.getfield 10) 3 11, none, none, kK (.iload_n 1) 1 1, kI (.invokevirtual 144) 3 31 2 4 0, none, none, kK (.goto 6) 3 25, none, none, kV (.sipush (-1002)) 3 (-1002), none, none, kJ .ireturn 1]
def mK116_0 : List (Option mI) := [kK (.iload_n 1) 1 1, kV (.iconst 1) 1 1, kV (.sipush 300) 3 300, none, none, kI (.invokestatic 89) 3 102 3 0 0, none, none, kK (.ifCond .ne 6) 3 14, none, none, kV (.bipush (-102)) 2 (-102), none, kJ .ireturn 1, kJ (.aload_n 0) 1, kK (.getfield 10) 3 11, none, none, kI (.getfield 99) 3 4 4 0 0, none, none, kK (.iload_n 1) 1 1, kJ .iadd 1, kV (.sipush 1200) 3 1200, none, none, kK (.if_icmp .le 6) 3 32, none, none, kV (.bipush (-103)) 2 (-103), none, kJ .ireturn 1, kJ (.iconst 0) 1, kK (.istore_n 2) 1 2, kJ (.iconst 0) 1, kK (.istore_n 3) 1 3, kK (.iload_n 3) 1 3, kK (.iload_n 1) 1 1, kK (.if_icmp .ge 98) 3 136, none, none, kJ (.aload_n 0) 1, kK (.getfield 10) 3 11, none, none, kI (.getfield 99) 3 4 4 0 0, none, none, kK (.istore 4) 2 4, none, kJ (.aload_n 0) 1, kI (.getfield 19) 3 11 1 0 0, none, none, kJ (.aload_n 0) 1, kK (.getfield 10) 3 11, none, none, kJ (.aload_n 0) 1, kK (.getfield 10) 3 11, none, none, kK (.iload 4) 2 4, none, kI (.invokevirtual 144) 3 31 2 4 0, none, none, kK (.iload 4) 2 4, none, kJ (.aload_n 0) 1, kK (.getfield 10) 3 11, none, none, kI (.getfield 141) 3 4 5 0 0, none, none, kK (.if_icmp .ge 7) 3 83, none, none, kV (.iconst 1) 1 1, kK (.goto 4) 3 84, none, none, kJ (.iconst 0) 1, kI (.invokevirtual 148) 3 2 4 0 0, none, none, kK (.ifCond .eq 6) 3 93, none, none, kI (.iinc 2 1) 3 2 0 0 1, none, none, kJ (.aload_n 0) 1, kI (.getfield 29) 3 11 3 0 0, none, none, kJ (.aload_n 0) 1, kI (.getfield 19) 3 11 1 0 0, none, none, kI (.invokevirtual 152) 3 40 2 5 0, none, none, kJ (.aload_n 0) 1, kI (.getfield 29) 3 11 3 0 0, none, none, kJ (.aload_n 0) 1, kI (.getfield 19) 3 11 1 0 0, none, none, kK (.iload 4) 2 4, none, kI (.invokevirtual 156) 3 41 3 5 0, none, none, kJ (.aload_n 0) 1, kK (.getfield 10) 3 11, none]
def mK116_1 : List (Option mI) := [none, kJ .dup 1, kI (.getfield 99) 3 4 4 0 0, none, none, kV (.iconst 1) 1 1, kJ .iadd 1, kI (.putfield 99) 3 4 4 0 0, none, none, kI (.iinc 3 1) 3 3 0 0 1, none, none, kK (.goto (-97)) 3 36, none, none, kK (.iload_n 2) 1 2, kJ .ireturn 1]
def mK116 : List (Option mI) := mK116_0 ++ (mK116_1)
def mK117_0 : List (Option mI) := [kK (.iload_n 1) 1 1, kI (.invokestatic 111) 3 104 1 0 0, none, none, kK (.ifCond .eq 14) 3 18, none, none, kK (.iload_n 2) 1 2, kJ (.iconst 0) 1, kV (.sipush 300) 3 300, none, none, kI (.invokestatic 89) 3 102 3 0 0, none, none, kK (.ifCond .ne 6) 3 21, none, none, kV (.bipush (-102)) 2 (-102), none, kJ .ireturn 1, kJ (.aload_n 0) 1, kI (.getfield 23) 3 11 2 0 0, none, none, kJ (.aload_n 0) 1, kI (.getfield 19) 3 11 1 0 0, none, none, kI (.invokevirtual 160) 3 1 2 0 0, none, none, kJ (.aload_n 0) 1, kI (.getfield 23) 3 11 2 0 0, none, none, kK (.iload_n 1) 1 1, kI (.invokevirtual 163) 3 3 2 0 0, none, none, kK (.istore_n 3) 1 3, kJ (.iconst 0) 1, kK (.istore 4) 2 4, none, kK (.iload_n 3) 1 3, kV (.iconst (-1)) 1 (-1), kK (.if_icmp .ne 74) 3 120, none, none, kK (.iload 4) 2 4, none, kK (.iload_n 2) 1 2, kK (.if_icmp .ge 68) 3 120, none, none, kJ (.aload_n 0) 1, kK (.getfield 10) 3 11, none, none, kI (.getfield 99) 3 4 4 0 0, none, none, kK (.iload 4) 2 4, none, kJ .iadd 1, kK (.istore 5) 2 5, none, kJ (.aload_n 0) 1, kI (.getfield 23) 3 11 2 0 0, none, none, kJ (.aload_n 0) 1, kK (.getfield 10) 3 11, none, none, kJ (.aload_n 0) 1, kK (.getfield 10) 3 11, none, none, kK (.iload 5) 2 5, none, kI (.invokevirtual 144) 3 31 2 4 0, none, none, kK (.iload 5) 2 5, none, kJ (.aload_n 0) 1, kK (.getfield 10) 3 11, none, none, kI (.getfield 141) 3 4 5 0 0, none, none, kK (.if_icmp .ge 7) 3 100, none, none, kV (.iconst 1) 1 1, kK (.goto 4) 3 101, none, none, kJ (.iconst 0) 1, kI (.invokevirtual 148) 3 2 4 0 0, none, none, kJ .pop 1, kI (.iinc 4 1) 3 4 0 0 1, none, none, kJ (.aload_n 0) 1, kI (.getfield 23) 3 11 2 0 0, none, none, kK (.iload_n 1) 1 1, kI (.invokevirtual 163) 3 3 2 0 0, none, none, kK (.istore_n 3) 1 3, kK (.goto (-73)) 3 44, none, none]
def mK117_1 : List (Option mI) := [kK (.iload_n 3) 1 3, kV (.iconst (-1)) 1 (-1), kK (.if_icmp .ne 7) 3 129, none, none, kV (.iconst (-1)) 1 (-1), kK (.goto 11) 3 137, none, none, kV (.sipush 1000) 3 1000, none, none, kK (.iload 4) 2 4, none, kJ .imul 1, kK (.iload_n 3) 1 3, kJ .iadd 1, kJ .ireturn 1]
def mK117 : List (Option mI) := mK117_0 ++ (mK117_1)
def mK118 : List (Option mI) := [kK (.iload_n 2) 1 2, kI (.invokestatic 107) 3 103 1 0 0, none, none, kK (.ifCond .ne 6) 3 10, none, none, kV (.bipush (-101)) 2 (-101), none, kJ .ireturn 1, kK (.iload_n 1) 1 1, kI (.invokestatic 166) 3 36 1 0 0, none, none, kK (.ifCond .ne 6) 3 20, none, none, kV (.bipush (-102)) 2 (-102), none, kJ .ireturn 1, kJ (.aload_n 0) 1, kI (.getfield 29) 3 11 3 0 0, none, none, kK (.iload_n 1) 1 1, kK (.iload_n 2) 1 2, kJ (.aload_n 0) 1, kK (.getfield 10) 3 11, none, none, kI (.getfield 99) 3 4 4 0 0, none, none, kI (.invokevirtual 169) 3 39 4 5 0, none, none, kJ .ireturn 1]
def mK119 : List (Option mI) := [kJ (.aload_n 0) 1, kI (.getfield 29) 3 11 3 0 0, none, none, kK (.iload_n 1) 1 1, kI (.invokevirtual 173) 3 38 2 5 0, none, none, kK (.ifCond .eq 10) 3 18, none, none, kK (.iload_n 2) 1 2, kI (.invokestatic 107) 3 103 1 0 0, none, none, kK (.ifCond .ne 6) 3 21, none, none, kV (.bipush (-101)) 2 (-101), none, kJ .ireturn 1, kJ (.aload_n 0) 1, kI (.getfield 29) 3 11 3 0 0, none, none, kI (.getfield 176) 3 5 1 0 0, none, none, kK (.iload_n 1) 1 1, kK (.iload_n 2) 1 2, kI (.invokestatic 118) 3 105 3 0 0, none, none, kJ .ireturn 1]
def mK120 : List (Option mI) := [kJ (.aload_n 0) 1, kI (.getfield 29) 3 11 3 0 0, none, none, kK (.iload_n 1) 1 1, kI (.invokevirtual 173) 3 38 2 5 0, none, none, kK (.ifCond .ne 6) 3 14, none, none, kV (.bipush (-101)) 2 (-101), none, kJ .ireturn 1, kK (.iload_n 2) 1 2, kJ (.iconst 0) 1, kV (.bipush 8) 2 8, none, kI (.invokestatic 89) 3 102 3 0 0, none, none, kK (.ifCond .ne 6) 3 27, none, none, kV (.bipush (-102)) 2 (-102), none, kJ .ireturn 1, kJ (.aload_n 0) 1, kI (.getfield 29) 3 11 3 0 0, none, none, kK (.iload_n 1) 1 1, kK (.iload_n 2) 1 2, kJ (.aload_n 0) 1, kI (.getfield 19) 3 11 1 0 0, none, none, kJ (.aload_n 0) 1, kK (.getfield 10) 3 11, none, none, kI (.getfield 99) 3 4 4 0 0, none, none, kI (.invokevirtual 179) 3 43 5 5 0, none, none, kJ .ireturn 1]
def mK121 : List (Option mI) := [kJ (.aload_n 0) 1, kI (.getfield 29) 3 11 3 0 0, none, none, kK (.iload_n 1) 1 1, kI (.invokevirtual 173) 3 38 2 5 0, none, none, kK (.ifCond .ne 6) 3 14, none, none, kV (.bipush (-101)) 2 (-101), none, kJ .ireturn 1, kK (.iload_n 2) 1 2, kI (.invokestatic 166) 3 36 1 0 0, none, none, kK (.ifCond .ne 6) 3 24, none, none, kV (.bipush (-102)) 2 (-102), none, kJ .ireturn 1, kJ (.aload_n 0) 1, kI (.getfield 29) 3 11 3 0 0, none, none, kK (.getfield 183) 3 5, none, none, kK (.iload_n 1) 1 1, kJ .iaload 1, kK (.iload_n 2) 1 2, kI (.invokestatic 186) 3 37 2 0 0, none, none, kK (.ifCond .eq 7) 3 44, none, none, kK (.iload_n 1) 1 1, kK (.goto 4) 3 45, none, none, kV (.iconst (-1)) 1 (-1), kJ .ireturn 1]
def mK122 : List (Option mI) := [kK (.lload_n 1) 1 1, kI (.invokestatic 190) 3 84 1 0 0, none, none, kK (.istore_n 3) 1 3, kK (.iload_n 3) 1 3, kK (.ifCond .ge 6) 3 12, none, none, kV (.bipush (-102)) 2 (-102), none, kJ .ireturn 1, kJ (.aload_n 0) 1, kI (.getfield 36) 3 11 4 0 0, none, none, kK (.lload_n 1) 1 1, kK (.iload_n 3) 1 3, kI (.invokevirtual 194) 3 86 3 10 0, none, none, kJ .ireturn 1]
def mK123 : List (Option mI) := [kJ (.aload_n 0) 1, kI (.getfield 36) 3 11 4 0 0, none, none, kI (.getfield 198) 3 10 1 0 0, none, none, kK (.istore_n 1) 1 1, kJ (.aload_n 0) 1, kI (.getfield 36) 3 11 4 0 0, none, none, kJ (.iconst 0) 1, kI (.putfield 198) 3 10 1 0 0, none, none, kK (.iload_n 1) 1 1, kJ .ireturn 1]
def mK124 : List (Option mI) := [kJ (.aload_n 0) 1, kI (.getfield 36) 3 11 4 0 0, none, none, kI (.invokevirtual 201) 3 87 1 10 0, none, none, kJ .ireturn 1]
def mK125 : List (Option mI) := [kJ (.aload_n 0) 1, kI (.getfield 36) 3 11 4 0 0, none, none, kI (.invokevirtual 205) 3 93 1 10 0, none, none, kK (.ifCond .eq 13) 3 20, none, none, kJ (.aload_n 0) 1, kI (.getfield 36) 3 11 4 0 0, none, none, kI (.invokevirtual 209) 3 94 1 10 0, none, none, kK (.goto 5) 3 22, none, none, kV (.bipush (-103)) 2 (-103), none, kJ .ireturn 1]
def mK126 : List (Option mI) := [kK (.iload_n 1) 1 1, kJ (.iconst 0) 1, kV (.iconst 2) 1 2, kI (.invokestatic 89) 3 102 3 0 0, none, none, kK (.ifCond .eq 14) 3 20, none, none, kJ (.aload_n 0) 1, kI (.getfield 29) 3 11 3 0 0, none, none, kK (.iload_n 2) 1 2, kI (.invokevirtual 173) 3 38 2 5 0, none, none, kK (.ifCond .ne 6) 3 23, none, none, kV (.bipush (-101)) 2 (-101), none, kJ .ireturn 1, kJ (.aload_n 0) 1, kI (.getfield 36) 3 11 4 0 0, none, none, kK (.iload_n 1) 1 1, kI (.invokevirtual 212) 3 95 2 10 0, none, none, kK (.istore_n 3) 1 3, kK (.iload_n 3) 1 3, kV (.iconst (-1)) 1 (-1), kK (.if_icmp .ne 5) 3 39, none, none, kV (.iconst (-1)) 1 (-1), kJ .ireturn 1, kJ (.aload_n 0) 1, kI (.getfield 36) 3 11 4 0 0, none, none, kK (.iload_n 3) 1 3, kJ (.aload_n 0) 1, kK (.iload_n 3) 1 3, kK (.iload_n 2) 1 2, kJ (.iconst 0) 1, kI (.invokevirtual 215) 3 128 4 11 0, none, none, kJ (.aload_n 0) 1, kK (.iload_n 3) 1 3, kK (.iload_n 2) 1 2, kV (.iconst 1) 1 1, kI (.invokevirtual 215) 3 128 4 11 0, none, none, kI (.invokevirtual 219) 3 96 4 10 0, none, none, kK (.ifCond .eq 7) 3 68, none, none, kV (.iconst 1) 1 1, kK (.goto 4) 3 69, none, none, kJ (.iconst 0) 1, kJ .ireturn 1]
def mK127 : List (Option mI) := [kK (.iload_n 1) 1 1, kJ (.iconst 0) 1, kJ (.aload_n 0) 1, kI (.getfield 36) 3 11 4 0 0, none, none, kI (.getfield 223) 3 10 2 0 0, none, none, kV (.iconst 1) 1 1, kJ .isub 1, kI (.invokestatic 89) 3 102 3 0 0, none, none, kK (.ifCond .eq 23) 3 37, none, none, kJ (.aload_n 0) 1, kI (.getfield 29) 3 11 3 0 0, none, none, kK (.iload_n 2) 1 2, kI (.invokevirtual 173) 3 38 2 5 0, none, none, kK (.ifCond .eq 12) 3 37, none, none, kK (.iload_n 3) 1 3, kJ (.iconst 0) 1, kV (.iconst 1) 1 1, kI (.invokestatic 89) 3 102 3 0 0, none, none, kK (.ifCond .ne 5) 3 39, none, none, kJ (.lconst 0) 1, kJ .lreturn 1, kJ (.aload_n 0) 1, kK (.iload_n 1) 1 1, kK (.iload_n 2) 1 2, kK (.iload_n 3) 1 3, kI (.invokevirtual 215) 3 128 4 11 0, none, none, kJ .lreturn 1]
def mK128 : List (Option mI) := [kJ (.aload_n 0) 1, kI (.getfield 36) 3 11 4 0 0, none, none, kJ (.aload_n 0) 1, kI (.getfield 19) 3 11 1 0 0, none, none, kI (.getfield 226) 3 0 1 0 0, none, none, kK (.iload_n 2) 1 2, kJ .iaload 1, kI (.putfield 229) 3 10 3 0 0, none, none, kJ (.aload_n 0) 1, kI (.getfield 36) 3 11 4 0 0, none, none, kJ (.aload_n 0) 1, kI (.getfield 19) 3 11 1 0 0, none, none, kJ (.getfield 114) 3, none, none, kJ (.aload_n 0) 1, kI (.getfield 29) 3 11 3 0 0, none, none, kI (.getfield 176) 3 5 1 0 0, none, none, kK (.iload_n 2) 1 2, kJ .iaload 1, kJ .iaload 1, kI (.putfield 231) 3 10 4 0 0, none, none, kJ (.aload_n 0) 1, kI (.getfield 36) 3 11 4 0 0, none, none, kJ (.aload_n 0) 1, kK (.getfield 10) 3 11, none, none, kI (.getfield 99) 3 4 4 0 0, none, none, kJ (.aload_n 0) 1, kI (.getfield 29) 3 11 3 0 0, none, none, kI (.getfield 233) 3 5 2 0 0, none, none, kK (.iload_n 2) 1 2, kJ .iaload 1, kJ .isub 1, kI (.putfield 236) 3 10 5 0 0, none, none, kJ (.aload_n 0) 1, kI (.getfield 36) 3 11 4 0 0, none, none, kJ (.aload_n 0) 1, kI (.getfield 29) 3 11 3 0 0, none, none, kK (.getfield 183) 3 5, none, none, kK (.iload_n 2) 1 2, kJ .iaload 1, kI (.putfield 239) 3 10 6 0 0, none, none, kJ (.aload_n 0) 1, kI (.getfield 36) 3 11 4 0 0, none, none, kK (.iload_n 1) 1 1, kK (.iload_n 3) 1 3, kI (.invokevirtual 241) 3 97 3 10 0, none, none, kJ .lreturn 1]
def mK129 : List (Option mI) := [kK (.iload_n 1) 1 1, kJ (.iconst 0) 1, kV (.sipush 300) 3 300, none, none, kI (.invokestatic 89) 3 102 3 0 0, none, none, kK (.ifCond .eq 12) 3 20, none, none, kK (.iload_n 2) 1 2, kJ (.iconst 0) 1, kV (.iconst 1) 1 1, kI (.invokestatic 89) 3 102 3 0 0, none, none, kK (.ifCond .ne 6) 3 23, none, none, kV (.bipush (-102)) 2 (-102), none, kJ .ireturn 1, kJ (.aload_n 0) 1, kK (.iload_n 1) 1 1, kK (.iload_n 2) 1 2, kI (.invokevirtual 245) 3 131 3 11 0, none, none, kJ .ireturn 1]
def mK130 : List (Option mI) := [kK (.iload_n 1) 1 1, kJ (.iconst 0) 1, kV (.sipush 300) 3 300, none, none, kI (.invokestatic 89) 3 102 3 0 0, none, none, kK (.ifCond .ne 6) 3 14, none, none, kV (.bipush (-102)) 2 (-102), none, kJ .ireturn 1, kJ (.aload_n 0) 1, kK (.iload_n 1) 1 1, kV (.iconst 1) 1 1, kI (.invokevirtual 245) 3 131 3 11 0, none, none, kJ (.aload_n 0) 1, kK (.iload_n 1) 1 1, kJ (.iconst 0) 1, kI (.invokevirtual 245) 3 131 3 11 0, none, none, kK (.if_icmp .ge 7) 3 33, none, none, kV (.iconst 1) 1 1, kK (.goto 4) 3 34, none, none, kJ (.iconst 0) 1, kJ .ireturn 1]
def mK131_0 : List (Option mI) := [kJ (.aload_n 0) 1, kI (.getfield 23) 3 11 2 0 0, none, none, kJ (.aload_n 0) 1, kI (.getfield 19) 3 11 1 0 0, none, none, kI (.invokevirtual 160) 3 1 2 0 0, none, none, kJ (.aload_n 0) 1, kK (.getfield 10) 3 11, none, none, kI (.getfield 99) 3 4 4 0 0, none, none, kK (.iload_n 1) 1 1, kJ .iadd 1, kK (.istore_n 3) 1 3, kJ (.aload_n 0) 1, kK (.getfield 10) 3 11, none, none, kI (.getfield 141) 3 4 5 0 0, none, none, kK (.iload_n 3) 1 3, kI (.invokestatic 248) 3 262 2 0 0, none, none, kK (.istore 4) 2 4, none, kK (.iload_n 2) 1 2, kV (.iconst 1) 1 1, kK (.if_icmp .ne 7) 3 43, none, none, kK (.iload_n 3) 1 3, kK (.goto 10) 3 50, none, none, kJ (.aload_n 0) 1, kK (.getfield 10) 3 11, none, none, kI (.invokevirtual 253) 3 30 1 4 0, none, none, kK (.istore 5) 2 5, none, kJ (.aload_n 0) 1, kK (.getfield 10) 3 11, none, none, kI (.getfield 99) 3 4 4 0 0, none, none, kK (.istore 6) 2 6, none, kK (.iload 6) 2 6, none, kK (.iload 5) 2 5, none, kK (.if_icmp .ge 53) 3 118, none, none, kJ (.aload_n 0) 1, kI (.getfield 23) 3 11 2 0 0, none, none, kJ (.aload_n 0) 1, kK (.getfield 10) 3 11, none, none, kJ (.aload_n 0) 1, kK (.getfield 10) 3 11, none, none, kK (.iload 6) 2 6, none, kI (.invokevirtual 144) 3 31 2 4 0, none, none, kK (.iload 6) 2 6, none, kK (.iload 4) 2 4, none, kK (.if_icmp .ge 7) 3 96, none, none, kV (.iconst 1) 1 1, kK (.goto 4) 3 97, none, none, kJ (.iconst 0) 1, kI (.invokevirtual 148) 3 2 4 0 0, none, none, kJ .pop 1, kJ (.aload_n 0) 1, kI (.getfield 29) 3 11 3 0 0, none, none, kJ (.aload_n 0) 1, kI (.getfield 23) 3 11 2 0 0, none, none, kI (.invokevirtual 152) 3 40 2 5 0, none, none, kI (.iinc 6 1) 3 6 0 0 1, none, none, kK (.goto (-54)) 3 61, none, none, kK (.iload_n 2) 1 2, kV (.iconst 1) 1 1]
def mK131_1 : List (Option mI) := [kK (.if_icmp .ne 52) 3 172, none, none, kK (.iload_n 3) 1 3, kV (.iconst 1) 1 1, kJ .isub 1, kK (.istore 6) 2 6, none, kK (.iload 6) 2 6, none, kK (.ifCond .lt 42) 3 172, none, none, kJ (.aload_n 0) 1, kI (.getfield 23) 3 11 2 0 0, none, none, kJ (.aload_n 0) 1, kK (.getfield 10) 3 11, none, none, kJ (.aload_n 0) 1, kK (.getfield 10) 3 11, none, none, kK (.iload 6) 2 6, none, kI (.invokevirtual 144) 3 31 2 4 0, none, none, kJ (.iconst 0) 1, kI (.invokevirtual 148) 3 2 4 0 0, none, none, kJ .pop 1, kJ (.aload_n 0) 1, kI (.getfield 29) 3 11 3 0 0, none, none, kJ (.aload_n 0) 1, kI (.getfield 23) 3 11 2 0 0, none, none, kI (.invokevirtual 152) 3 40 2 5 0, none, none, kI (.iinc 6 (-1)) 3 6 0 0 (-1), none, none, kK (.goto (-41)) 3 128, none, none, kJ (.aload_n 0) 1, kI (.getfield 29) 3 11 3 0 0, none, none, kJ (.aload_n 0) 1, kI (.getfield 23) 3 11 2 0 0, none, none, kI (.invokevirtual 256) 3 42 2 5 0, none, none, kJ .ireturn 1]
def mK131 : List (Option mI) := mK131_0 ++ (mK131_1)
def mK132 : List (Option mI) := [kK (.iload_n 1) 1 1, kJ (.iconst 0) 1, kV (.sipush 1200) 3 1200, none, none, kI (.invokestatic 89) 3 102 3 0 0, none, none, kK (.ifCond .eq 17) 3 25, none, none, kK (.iload_n 2) 1 2, kI (.invokestatic 111) 3 104 1 0 0, none, none, kK (.ifCond .ne 13) 3 28, none, none, kK (.iload_n 2) 1 2, kV (.sipush (-999)) 3 (-999), none, none, kK (.if_icmp .eq 6) 3 28, none, none, kV (.bipush (-102)) 2 (-102), none, kJ .ireturn 1, kJ (.aload_n 0) 1, kI (.getfield 43) 3 11 5 0 0, none, none, kK (.iload_n 1) 1 1, kK (.iload_n 2) 1 2, kI (.invokevirtual 260) 3 60 3 7 0, none, none, kJ .ireturn 1]
def mK133 : List (Option mI) := [kK (.iload_n 1) 1 1, kV (.iconst 1) 1 1, kV (.bipush 50) 2 50, none, kI (.invokestatic 89) 3 102 3 0 0, none, none, kK (.ifCond .ne 6) 3 13, none, none, kV (.bipush (-102)) 2 (-102), none, kJ .ireturn 1, kJ (.aload_n 0) 1, kI (.getfield 43) 3 11 5 0 0, none, none, kI (.getfield 262) 3 7 1 0 0, none, none, kK (.istore_n 2) 1 2, kJ (.aload_n 0) 1, kI (.getfield 43) 3 11 5 0 0, none, none, kK (.iload_n 1) 1 1, kI (.putfield 262) 3 7 1 0 0, none, none, kK (.iload_n 2) 1 2, kJ .ireturn 1]
def mK134 : List (Option mI) := [kK (.iload_n 1) 1 1, kJ (.iconst 0) 1, kV (.sipush 1200) 3 1200, none, none, kI (.invokestatic 89) 3 102 3 0 0, none, none, kK (.ifCond .eq 12) 3 20, none, none, kK (.iload_n 2) 1 2, kJ (.iconst 0) 1, kV (.iconst 1) 1 1, kI (.invokestatic 89) 3 102 3 0 0, none, none, kK (.ifCond .ne 7) 3 24, none, none, kV (.sipush (-1002)) 3 (-1002), none, none, kJ .ireturn 1, kJ (.aload_n 0) 1, kI (.getfield 43) 3 11 5 0 0, none, none, kI (.invokevirtual 265) 3 62 1 7 0, none, none, kK (.ifCond .ne 7) 3 38, none, none, kV (.sipush (-1000)) 3 (-1000), none, none, kJ .ireturn 1, kK (.iload_n 2) 1 2, kK (.ifCond .ne 14) 3 53, none, none, kJ (.aload_n 0) 1, kI (.getfield 43) 3 11 5 0 0, none, none, kK (.iload_n 1) 1 1, kI (.invokevirtual 268) 3 63 2 7 0, none, none, kK (.goto 11) 3 61, none, none, kJ (.aload_n 0) 1, kI (.getfield 43) 3 11 5 0 0, none, none, kK (.iload_n 1) 1 1, kI (.invokevirtual 271) 3 64 2 7 0, none, none, kJ .ireturn 1]
def mK135 : List (Option mI) := [kK (.iload_n 1) 1 1, kK (.ifCond .lt 22) 3 23, none, none, kK (.iload_n 2) 1 2, kK (.iload_n 1) 1 1, kK (.if_icmp .lt 17) 3 23, none, none, kK (.iload_n 2) 1 2, kV (.sipush 1200) 3 1200, none, none, kK (.if_icmp .gt 10) 3 23, none, none, kK (.iload_n 3) 1 3, kI (.invokestatic 111) 3 104 1 0 0, none, none, kK (.ifCond .ne 6) 3 26, none, none, kV (.bipush (-102)) 2 (-102), none, kJ .ireturn 1, kJ (.aload_n 0) 1, kI (.getfield 43) 3 11 5 0 0, none, none, kI (.invokevirtual 265) 3 62 1 7 0, none, none, kK (.ifCond .eq 16) 3 49, none, none, kJ (.aload_n 0) 1, kI (.getfield 43) 3 11 5 0 0, none, none, kK (.iload_n 1) 1 1, kK (.iload_n 2) 1 2, kK (.iload_n 3) 1 3, kI (.invokevirtual 274) 3 65 4 7 0, none, none, kK (.goto 4) 3 50, none, none, kV (.iconst (-1)) 1 (-1), kJ .ireturn 1]
def mK136 : List (Option mI) := [kK (.iload_n 1) 1 1, kJ (.iconst 0) 1, kV (.bipush 99) 2 99, none, kI (.invokestatic 89) 3 102 3 0 0, none, none, kK (.ifCond .eq 14) 3 21, none, none, kJ (.aload_n 0) 1, kI (.getfield 50) 3 11 6 0 0, none, none, kK (.iload_n 1) 1 1, kI (.invokevirtual 277) 3 78 2 9 0, none, none, kK (.goto 5) 3 23, none, none, kV (.bipush (-102)) 2 (-102), none, kJ .ireturn 1]
def mK137 : List (Option mI) := [kK (.iload_n 1) 1 1, kV (.iconst 1) 1 1, kV (.iconst 4) 1 4, kI (.invokestatic 89) 3 102 3 0 0, none, none, kK (.ifCond .eq 13) 3 19, none, none, kK (.iload_n 2) 1 2, kV (.iconst 1) 1 1, kV (.bipush 8) 2 8, none, kI (.invokestatic 89) 3 102 3 0 0, none, none, kK (.ifCond .ne 6) 3 22, none, none, kV (.bipush (-102)) 2 (-102), none, kJ .ireturn 1, kK (.iload_n 3) 1 3, kK (.ifCond .eq 17) 3 40, none, none, kK (.iload_n 3) 1 3, kV (.bipush 10) 2 10, none, kV (.bipush 17) 2 17, none, kI (.invokestatic 89) 3 102 3 0 0, none, none, kK (.ifCond .ne 6) 3 40, none, none, kV (.bipush (-102)) 2 (-102), none, kJ .ireturn 1, kJ (.aload_n 0) 1, kI (.getfield 50) 3 11 6 0 0, none, none, kK (.iload_n 1) 1 1, kK (.iload_n 2) 1 2, kI (.invokevirtual 279) 3 80 3 9 0, none, none, kK (.ifCond .ne 5) 3 54, none, none, kV (.iconst (-1)) 1 (-1), kJ .ireturn 1, kK (.iload_n 3) 1 3, kK (.ifCond .ne 13) 3 68, none, none, kJ (.aload_n 0) 1, kI (.getfield 50) 3 11 6 0 0, none, none, kI (.getfield 282) 3 9 2 0 0, none, none, kK (.goto 14) 3 79, none, none, kJ (.aload_n 0) 1, kI (.getfield 50) 3 11 6 0 0, none, none, kK (.iload_n 3) 1 3, kV (.bipush 10) 2 10, none, kJ .isub 1, kI (.invokevirtual 285) 3 79 2 9 0, none, none, kJ .ireturn 1]
def mK138 : List (Option mI) := [kK (.iload_n 1) 1 1, kV (.iconst 1) 1 1, kV (.sipush 999) 3 999, none, none, kI (.invokestatic 89) 3 102 3 0 0, none, none, kK (.ifCond .eq 13) 3 21, none, none, kK (.iload_n 2) 1 2, kV (.iconst 1) 1 1, kV (.bipush 99) 2 99, none, kI (.invokestatic 89) 3 102 3 0 0, none, none, kK (.ifCond .ne 6) 3 24, none, none, kV (.bipush (-102)) 2 (-102), none, kJ .ireturn 1, kJ (.aload_n 0) 1, kI (.getfield 57) 3 11 7 0 0, none, none, kK (.iload_n 1) 1 1, kK (.iload_n 2) 1 2, kI (.invokevirtual 288) 3 13 3 2 0, none, none, kJ .ireturn 1]
def mK139 : List (Option mI) := [kK (.iload_n 1) 1 1, kJ (.iconst 0) 1, kV (.iconst 3) 1 3, kI (.invokestatic 89) 3 102 3 0 0, none, none, kK (.ifCond .ne 6) 3 12, none, none, kV (.bipush (-101)) 2 (-101), none, kJ .ireturn 1, kK (.iload_n 2) 1 2, kJ (.iconst 0) 1, kV (.sipush 9999) 3 9999, none, none, kI (.invokestatic 89) 3 102 3 0 0, none, none, kK (.ifCond .ne 6) 3 26, none, none, kV (.bipush (-102)) 2 (-102), none, kJ .ireturn 1, kJ (.aload_n 0) 1, kI (.getfield 57) 3 11 7 0 0, none, none, kK (.getfield 289) 3 2, none, none, kK (.iload_n 1) 1 1, kK (.iload_n 2) 1 2, kI (.invokestatic 118) 3 105 3 0 0, none, none, kJ .ireturn 1]
def mK140 : List (Option mI) := [kK (.iload_n 1) 1 1, kJ (.iconst 0) 1, kJ (.aload_n 0) 1, kI (.getfield 57) 3 11 7 0 0, none, none, kI (.getfield 292) 3 2 2 0 0, none, none, kV (.iconst 1) 1 1, kJ .isub 1, kI (.invokestatic 89) 3 102 3 0 0, none, none, kK (.ifCond .eq 12) 3 26, none, none, kK (.iload_n 2) 1 2, kJ (.iconst 0) 1, kV (.iconst 3) 1 3, kI (.invokestatic 89) 3 102 3 0 0, none, none, kK (.ifCond .ne 6) 3 29, none, none, kV (.bipush (-101)) 2 (-101), none, kJ .ireturn 1, kK (.iload_n 3) 1 3, kJ (.iconst 0) 1, kV (.bipush 60) 2 60, none, kI (.invokestatic 89) 3 102 3 0 0, none, none, kK (.ifCond .ne 6) 3 42, none, none, kV (.bipush (-102)) 2 (-102), none, kJ .ireturn 1, kJ (.aload_n 0) 1, kI (.getfield 57) 3 11 7 0 0, none, none, kI (.getfield 293) 3 2 1 0 0, none, none, kK (.iload_n 1) 1 1, kJ .aaload 1, kK (.iload_n 2) 1 2, kK (.iload_n 3) 1 3, kI (.invokestatic 118) 3 105 3 0 0, none, none, kJ .ireturn 1]
def mK141 : List (Option mI) := [kK (.iload_n 1) 1 1, kJ (.iconst 0) 1, kV (.bipush 9) 2 9, none, kI (.invokestatic 89) 3 102 3 0 0, none, none, kK (.ifCond .ne 6) 3 13, none, none, kV (.bipush (-102)) 2 (-102), none, kJ .ireturn 1, kJ (.aload_n 0) 1, kI (.getfield 57) 3 11 7 0 0, none, none, kI (.getfield 297) 3 2 3 0 0, none, none, kK (.istore_n 2) 1 2, kJ (.aload_n 0) 1, kI (.getfield 57) 3 11 7 0 0, none, none, kK (.iload_n 1) 1 1, kI (.putfield 297) 3 2 3 0 0, none, none, kK (.iload_n 2) 1 2, kJ .ireturn 1]
def mK142 : List (Option mI) := [kK (.iload_n 1) 1 1, kK (.ifCond .eq 17) 3 18, none, none, kK (.iload_n 1) 1 1, kV (.bipush 10) 2 10, none, kV (.bipush 15) 2 15, none, kI (.invokestatic 89) 3 102 3 0 0, none, none, kK (.ifCond .ne 6) 3 18, none, none, kV (.bipush (-102)) 2 (-102), none, kJ .ireturn 1, kJ (.aload_n 0) 1, kI (.getfield 57) 3 11 7 0 0, none, none, kI (.invokevirtual 300) 3 16 1 2 0, none, none, kK (.iload_n 1) 1 1, kK (.ifCond .ne 13) 3 39, none, none, kJ (.aload_n 0) 1, kI (.getfield 57) 3 11 7 0 0, none, none, kI (.getfield 303) 3 2 4 0 0, none, none, kK (.goto 14) 3 50, none, none, kJ (.aload_n 0) 1, kI (.getfield 57) 3 11 7 0 0, none, none, kK (.iload_n 1) 1 1, kV (.bipush 10) 2 10, none, kJ .isub 1, kI (.invokevirtual 306) 3 14 2 2 0, none, none, kJ .ireturn 1]
def mK143 : List (Option mI) := [kK (.iload_n 1) 1 1, kJ (.iconst 0) 1, kV (.iconst 3) 1 3, kI (.invokestatic 89) 3 102 3 0 0, none, none, kK (.ifCond .ne 6) 3 12, none, none, kV (.bipush (-101)) 2 (-101), none, kJ .ireturn 1, kK (.iload_n 2) 1 2, kK (.getstatic 309) 3 2, none, none, kK (.iload_n 1) 1 1, kJ .iaload 1, kK (.getstatic 310) 3 3, none, none, kK (.iload_n 1) 1 1, kJ .iaload 1, kI (.invokestatic 89) 3 102 3 0 0, none, none, kK (.ifCond .ne 6) 3 32, none, none, kV (.bipush (-102)) 2 (-102), none, kJ .ireturn 1, kJ (.aload_n 0) 1, kI (.getfield 64) 3 11 8 0 0, none, none, kK (.getfield 311) 3 6, none, none, kK (.iload_n 1) 1 1, kK (.iload_n 2) 1 2, kI (.invokestatic 118) 3 105 3 0 0, none, none, kJ .ireturn 1]
def mK144 : List (Option mI) := [kK (.iload_n 1) 1 1, kV (.iconst 1) 1 1, kV (.bipush 99) 2 99, none, kI (.invokestatic 89) 3 102 3 0 0, none, none, kK (.ifCond .eq 14) 3 21, none, none, kK (.iload_n 2) 1 2, kJ (.iconst 0) 1, kV (.sipush 999) 3 999, none, none, kI (.invokestatic 89) 3 102 3 0 0, none, none, kK (.ifCond .ne 6) 3 24, none, none, kV (.bipush (-102)) 2 (-102), none, kJ .ireturn 1, kJ (.aload_n 0) 1, kI (.getfield 64) 3 11 8 0 0, none, none, kK (.iload_n 1) 1 1, kK (.iload_n 2) 1 2, kI (.invokevirtual 312) 3 49 3 6 0, none, none, kJ .ireturn 1]
def mK145 : List (Option mI) := [kK (.iload_n 1) 1 1, kJ (.iconst 0) 1, kV (.sipush 199) 3 199, none, none, kI (.invokestatic 89) 3 102 3 0 0, none, none, kK (.ifCond .eq 12) 3 20, none, none, kK (.iload_n 2) 1 2, kJ (.iconst 0) 1, kV (.iconst 3) 1 3, kI (.invokestatic 89) 3 102 3 0 0, none, none, kK (.ifCond .ne 6) 3 23, none, none, kV (.bipush (-102)) 2 (-102), none, kJ .ireturn 1, kJ (.aload_n 0) 1, kI (.getfield 64) 3 11 8 0 0, none, none, kI (.invokevirtual 313) 3 50 1 6 0, none, none, kJ (.aload_n 0) 1, kI (.getfield 64) 3 11 8 0 0, none, none, kK (.iload_n 1) 1 1, kK (.iload_n 2) 1 2, kI (.invokevirtual 316) 3 55 3 6 0, none, none, kJ .ireturn 1]
def mK146 : List (Option mI) := [kK (.iload_n 1) 1 1, kJ (.iconst 0) 1, kV (.iconst 1) 1 1, kI (.invokestatic 89) 3 102 3 0 0, none, none, kK (.ifCond .ne 6) 3 12, none, none, kV (.bipush (-102)) 2 (-102), none, kJ .ireturn 1, kJ (.aload_n 0) 1, kI (.getfield 64) 3 11 8 0 0, none, none, kI (.invokevirtual 313) 3 50 1 6 0, none, none, kJ (.aload_n 0) 1, kI (.getfield 64) 3 11 8 0 0, none, none, kK (.iload_n 1) 1 1, kI (.invokevirtual 318) 3 56 2 6 0, none, none, kJ .ireturn 1]
def mK147 : List (Option mI) := [kK (.iload_n 1) 1 1, kJ (.iconst 0) 1, kV (.bipush 9) 2 9, none, kI (.invokestatic 89) 3 102 3 0 0, none, none, kK (.ifCond .eq 16) 3 23, none, none, kK (.iload_n 2) 1 2, kV (.sipush (-9999)) 3 (-9999), none, none, kV (.sipush 9999) 3 9999, none, none, kI (.invokestatic 89) 3 102 3 0 0, none, none, kK (.ifCond .ne 6) 3 26, none, none, kV (.bipush (-102)) 2 (-102), none, kJ .ireturn 1, kJ (.aload_n 0) 1, kI (.getfield 71) 3 11 9 0 0, none, none, kK (.iload_n 1) 1 1, kK (.iload_n 2) 1 2, kI (.invokevirtual 321) 3 22 3 3 0, none, none, kJ .ireturn 1]
def mK148 : List (Option mI) := [kJ (.aload_n 0) 1, kI (.getfield 71) 3 11 9 0 0, none, none, kK (.iload_n 1) 1 1, kI (.invokevirtual 322) 3 21 2 3 0, none, none, kK (.ifCond .eq 19) 3 27, none, none, kJ (.aload_n 0) 1, kI (.getfield 71) 3 11 9 0 0, none, none, kK (.iload_n 2) 1 2, kI (.invokevirtual 322) 3 21 2 3 0, none, none, kK (.ifCond .eq 8) 3 27, none, none, kK (.iload_n 1) 1 1, kK (.iload_n 2) 1 2, kK (.if_icmp .ne 6) 3 30, none, none, kV (.bipush (-101)) 2 (-101), none, kJ .ireturn 1, kK (.iload_n 3) 1 3, kJ (.iconst 0) 1, kV (.sipush 999) 3 999, none, none, kI (.invokestatic 89) 3 102 3 0 0, none, none, kK (.ifCond .ne 6) 3 44, none, none, kV (.bipush (-102)) 2 (-102), none, kJ .ireturn 1, kJ (.aload_n 0) 1, kI (.getfield 71) 3 11 9 0 0, none, none, kK (.getfield 323) 3 3, none, none, kK (.iload_n 1) 1 1, kJ .aaload 1, kK (.iload_n 2) 1 2, kK (.iload_n 3) 1 3, kI (.invokestatic 118) 3 105 3 0 0, none, none, kJ .ireturn 1]
def mK149 : List (Option mI) := [kK (.iload_n 1) 1 1, kJ (.iconst 0) 1, kV (.sipush 999) 3 999, none, none, kI (.invokestatic 89) 3 102 3 0 0, none, none, kK (.ifCond .eq 12) 3 20, none, none, kK (.iload_n 2) 1 2, kJ (.iconst 0) 1, kV (.iconst 1) 1 1, kI (.invokestatic 89) 3 102 3 0 0, none, none, kK (.ifCond .ne 6) 3 23, none, none, kV (.bipush (-102)) 2 (-102), none, kJ .ireturn 1, kJ (.aload_n 0) 1, kI (.getfield 71) 3 11 9 0 0, none, none, kK (.iload_n 1) 1 1, kI (.invokevirtual 326) 3 23 2 3 0, none, none, kK (.istore_n 3) 1 3, kK (.iload_n 2) 1 2, kK (.ifCond .ne 7) 3 40, none, none, kK (.iload_n 3) 1 3, kK (.goto 10) 3 47, none, none, kJ (.aload_n 0) 1, kI (.getfield 71) 3 11 9 0 0, none, none, kI (.getfield 329) 3 3 2 0 0, none, none, kJ .ireturn 1]
def mK150 : List (Option mI) := [kK (.iload_n 1) 1 1, kV (.iconst (-1)) 1 (-1), kK (.if_icmp .ne 14) 3 16, none, none, kJ (.aload_n 0) 1, kI (.getfield 71) 3 11 9 0 0, none, none, kV (.sipush 255) 3 255, none, none, kI (.invokevirtual 332) 3 26 2 3 0, none, none, kJ .ireturn 1, kJ (.aload_n 0) 1, kI (.getfield 71) 3 11 9 0 0, none, none, kK (.iload_n 1) 1 1, kI (.invokevirtual 322) 3 21 2 3 0, none, none, kK (.ifCond .eq 16) 3 40, none, none, kJ (.aload_n 0) 1, kI (.getfield 71) 3 11 9 0 0, none, none, kV (.iconst 1) 1 1, kK (.iload_n 1) 1 1, kJ .ishl 1, kI (.invokevirtual 332) 3 26 2 3 0, none, none, kK (.goto 5) 3 42, none, none, kV (.bipush (-101)) 2 (-101), none, kJ .ireturn 1]
def mK151 : List (Option mI) := [kK (.iload_n 1) 1 1, kV (.iconst 1) 1 1, kV (.bipush 99) 2 99, none, kI (.invokestatic 89) 3 102 3 0 0, none, none, kK (.ifCond .eq 14) 3 21, none, none, kK (.iload_n 2) 1 2, kJ (.iconst 0) 1, kV (.sipush 999) 3 999, none, none, kI (.invokestatic 89) 3 102 3 0 0, none, none, kK (.ifCond .ne 6) 3 24, none, none, kV (.bipush (-102)) 2 (-102), none, kJ .ireturn 1, kJ (.aload_n 0) 1, kI (.getfield 78) 3 11 10 0 0, none, none, kK (.iload_n 1) 1 1, kK (.iload_n 2) 1 2, kI (.invokevirtual 335) 3 68 3 8 0, none, none, kJ .ireturn 1]
def mK152 : List (Option mI) := [kK (.iload_n 1) 1 1, kJ (.iconst 0) 1, kV (.iconst 3) 1 3, kI (.invokestatic 89) 3 102 3 0 0, none, none, kK (.ifCond .ne 6) 3 12, none, none, kV (.bipush (-101)) 2 (-101), none, kJ .ireturn 1, kK (.iload_n 2) 1 2, kJ (.iconst 0) 1, kK (.getstatic 336) 3 4, none, none, kK (.iload_n 1) 1 1, kJ .iaload 1, kI (.invokestatic 89) 3 102 3 0 0, none, none, kK (.ifCond .ne 6) 3 28, none, none, kV (.bipush (-102)) 2 (-102), none, kJ .ireturn 1, kJ (.aload_n 0) 1, kI (.getfield 78) 3 11 10 0 0, none, none, kK (.getfield 337) 3 8, none, none, kK (.iload_n 1) 1 1, kK (.iload_n 2) 1 2, kI (.invokestatic 118) 3 105 3 0 0, none, none, kJ .ireturn 1]
def mK153 : List (Option mI) := [kK (.iload_n 1) 1 1, kJ (.iconst 0) 1, kJ (.aload_n 0) 1, kI (.getfield 78) 3 11 10 0 0, none, none, kI (.getfield 338) 3 8 1 0 0, none, none, kV (.iconst 1) 1 1, kJ .isub 1, kI (.invokestatic 89) 3 102 3 0 0, none, none, kK (.ifCond .ne 7) 3 21, none, none, kW (.ldc2_w 339) 3 (-1), none, none, kJ .lreturn 1, kK (.iload_n 2) 1 2, kJ (.iconst 0) 1, kJ (.aload_n 0) 1, kI (.getfield 78) 3 11 10 0 0, none, none, kI (.invokevirtual 341) 3 69 1 8 0, none, none, kV (.iconst 1) 1 1, kJ .isub 1, kI (.invokestatic 89) 3 102 3 0 0, none, none, kK (.ifCond .ne 7) 3 42, none, none, kW (.ldc2_w 344) 3 (-2), none, none, kJ .lreturn 1, kJ (.aload_n 0) 1, kI (.getfield 78) 3 11 10 0 0, none, none, kK (.iload_n 1) 1 1, kK (.iload_n 2) 1 2, kI (.invokevirtual 346) 3 72 3 8 0, none, none, kJ .lreturn 1]
def mK154 : List (Option mI) := [kK (.iload_n 1) 1 1, kJ (.iconst 0) 1, kV (.iconst 1) 1 1, kI (.invokestatic 89) 3 102 3 0 0, none, none, kK (.ifCond .ne 6) 3 12, none, none, kV (.bipush (-102)) 2 (-102), none, kJ .ireturn 1, kK (.iload_n 1) 1 1, kK (.ifCond .ne 13) 3 26, none, none, kJ (.aload_n 0) 1, kI (.getfield 78) 3 11 10 0 0, none, none, kI (.invokevirtual 349) 3 74 1 8 0, none, none, kK (.goto 10) 3 33, none, none, kJ (.aload_n 0) 1, kI (.getfield 78) 3 11 10 0 0, none, none, kI (.invokevirtual 352) 3 75 1 8 0, none, none, kJ .ireturn 1]
def mK155 : List (Option mI) := [kK (.iload_n 1) 1 1, kJ (.iconst 0) 1, kV (.sipush 9999) 3 9999, none, none, kI (.invokestatic 89) 3 102 3 0 0, none, none, kK (.ifCond .eq 14) 3 22, none, none, kJ (.aload_n 0) 1, kI (.getfield 85) 3 11 11 0 0, none, none, kK (.iload_n 1) 1 1, kI (.invokevirtual 355) 3 5 2 1 0, none, none, kK (.goto 5) 3 24, none, none, kV (.bipush (-102)) 2 (-102), none, kJ .ireturn 1]
def mK156 : List (Option mI) := [kK (.iload_n 1) 1 1, kJ (.iconst 0) 1, kJ (.aload_n 0) 1, kI (.getfield 85) 3 11 11 0 0, none, none, kI (.getfield 356) 3 1 1 0 0, none, none, kV (.iconst 1) 1 1, kJ .isub 1, kI (.invokestatic 89) 3 102 3 0 0, none, none, kK (.ifCond .eq 12) 3 26, none, none, kK (.iload_n 2) 1 2, kJ (.iconst 0) 1, kV (.iconst 4) 1 4, kI (.invokestatic 89) 3 102 3 0 0, none, none, kK (.ifCond .ne 6) 3 29, none, none, kV (.bipush (-101)) 2 (-101), none, kJ .ireturn 1, kK (.iload_n 3) 1 3, kV (.sipush (-999)) 3 (-999), none, none, kV (.sipush 999) 3 999, none, none, kI (.invokestatic 89) 3 102 3 0 0, none, none, kK (.ifCond .ne 7) 3 46, none, none, kV (.sipush (-1002)) 3 (-1002), none, none, kJ .ireturn 1, kJ (.aload_n 0) 1, kI (.getfield 85) 3 11 11 0 0, none, none, kK (.getfield 357) 3 1, none, none, kK (.iload_n 1) 1 1, kJ .aaload 1, kK (.iload_n 2) 1 2, kK (.iload_n 3) 1 3, kI (.invokestatic 118) 3 105 3 0 0, none, none, kJ .ireturn 1]
def mK157 : List (Option mI) := [kK (.iload_n 1) 1 1, kJ (.iconst 0) 1, kV (.ldc_w 360) 3 99999, none, none, kI (.invokestatic 89) 3 102 3 0 0, none, none, kK (.ifCond .eq 21) 3 29, none, none, kK (.iload_n 2) 1 2, kV (.iconst 1) 1 1, kV (.iconst 5) 1 5, kI (.invokestatic 89) 3 102 3 0 0, none, none, kK (.ifCond .eq 12) 3 29, none, none, kK (.iload_n 3) 1 3, kJ (.iconst 0) 1, kV (.iconst 2) 1 2, kI (.invokestatic 89) 3 102 3 0 0, none, none, kK (.ifCond .ne 7) 3 33, none, none, kV (.sipush (-10002)) 3 (-10002), none, none, kJ .ireturn 1, kJ (.aload_n 0) 1, kI (.getfield 85) 3 11 11 0 0, none, none, kK (.iload_n 1) 1 1, kK (.iload_n 2) 1 2, kI (.invokevirtual 361) 3 6 3 1 0, none, none, kK (.istore 4) 2 4, none, kK (.iload_n 3) 1 3, kS (.lookupswitch 41 #[(0, 27), (1, 30)]) 27 86 [(0, 72), (1, 75)], none, none, none, none, none, none, none, none, none, none, none, none, none, none, none, none, none, none, none, none, none, none, none, none, none, none, kK (.iload 4) 2 4, none, kJ .ireturn 1, kJ (.aload_n 0) 1, kI (.getfield 85) 3 11 11 0 0, none, none, kK (.iload 4) 2 4, none, kK (.iload_n 2) 1 2, kI (.invokevirtual 364) 3 9 3 1 0, none, none, kJ .ireturn 1, kJ (.aload_n 0) 1, kI (.getfield 85) 3 11 11 0 0, none, none, kK (.iload 4) 2 4, none, kI (.invokevirtual 367) 3 8 2 1 0, none, none, kJ .ireturn 1]
def mK158 : List (Option mI) := [kK (.iload_n 1) 1 1, kJ (.iconst 0) 1, kV (.bipush 12) 2 12, none, kI (.invokestatic 89) 3 102 3 0 0, none, none, kK (.ifCond .eq 11) 3 18, none, none, kJ (.aload_n 0) 1, kK (.iload_n 1) 1 1, kI (.invokevirtual 370) 3 159 2 11 0, none, none, kK (.goto 5) 3 20, none, none, kV (.bipush (-102)) 2 (-102), none, kJ .ireturn 1]
def mK159_0 : List (Option mI) := [kK (.iload_n 1) 1 1, kS (.tableswitch 159 0 11 #[63, 71, 79, 87, 95, 103, 111, 119, 127, 135, 143, 151]) 63 160 [(0, 64), (1, 72), (2, 80), (3, 88), (4, 96), (5, 104), (6, 112), (7, 120), (8, 128), (9, 136), (10, 144), (11, 152)], none, none, none, none, none, none, none, none, none, none, none, none, none, none, none, none, none, none, none, none, none, none, none, none, none, none, none, none, none, none, none, none, none, none, none, none, none, none, none, none, none, none, none, none, none, none, none, none, none, none, none, none, none, none, none, none, none, none, none, none, none, none, kJ (.aload_n 0) 1, kK (.getfield 10) 3 11, none, none, kI (.getfield 373) 3 4 3 0 0, none, none, kJ .ireturn 1, kJ (.aload_n 0) 1, kK (.getfield 10) 3 11, none, none, kI (.getfield 99) 3 4 4 0 0, none, none, kJ .ireturn 1, kJ (.aload_n 0) 1, kI (.getfield 19) 3 11 1 0 0, none, none, kI (.getfield 134) 3 0 2 0 0, none, none, kJ .ireturn 1, kJ (.aload_n 0) 1, kI (.getfield 29) 3 11 3 0 0, none, none, kI (.getfield 376) 3 5 3 0 0, none, none, kJ .ireturn 1, kJ (.aload_n 0) 1, kI (.getfield 36) 3 11 4 0 0, none, none, kI (.getfield 223) 3 10 2 0 0, none, none, kJ .ireturn 1, kJ (.aload_n 0) 1, kI (.getfield 43) 3 11 5 0 0, none, none, kK (.getfield 377) 3 7, none, none, kJ .ireturn 1, kJ (.aload_n 0) 1, kI (.getfield 50) 3 11 6 0 0, none, none, kI (.getfield 378) 3 9 1 0 0, none, none, kJ .ireturn 1]
def mK159_1 : List (Option mI) := [kJ (.aload_n 0) 1, kI (.getfield 57) 3 11 7 0 0, none, none, kI (.getfield 292) 3 2 2 0 0, none, none, kJ .ireturn 1, kJ (.aload_n 0) 1, kI (.getfield 64) 3 11 8 0 0, none, none, kI (.getfield 379) 3 6 1 0 0, none, none, kJ .ireturn 1, kJ (.aload_n 0) 1, kI (.getfield 71) 3 11 9 0 0, none, none, kI (.getfield 380) 3 3 1 0 0, none, none, kJ .ireturn 1, kJ (.aload_n 0) 1, kI (.getfield 78) 3 11 10 0 0, none, none, kI (.getfield 338) 3 8 1 0 0, none, none, kJ .ireturn 1, kJ (.aload_n 0) 1, kI (.getfield 85) 3 11 11 0 0, none, none, kI (.getfield 356) 3 1 1 0 0, none, none, kJ .ireturn 1, kJ (.aload_n 0) 1, kI (.getfield 36) 3 11 4 0 0, none, none, kI (.getfield 198) 3 10 1 0 0, none, none, kJ .ireturn 1]
def mK159 : List (Option mI) := mK159_0 ++ (mK159_1)
def mK160_0 : List (Option mI) := [kJ (.aload_n 0) 1, kK (.getfield 10) 3 11, none, none, kW (.ldc2_w 381) 3 257, none, none, kJ (.aload_n 0) 1, kI (.getfield 19) 3 11 1 0 0, none, none, kJ (.getfield 114) 3, none, none, kI (.invokevirtual 383) 3 34 3 4 0, none, none, kK (.lstore_n 1) 1 1, kJ (.aload_n 0) 1, kK (.lload_n 1) 1 1, kI (.invokevirtual 387) 3 161 2 11 0, none, none, kK (.lstore_n 1) 1 1, kJ (.aload_n 0) 1, kK (.lload_n 1) 1 1, kI (.invokevirtual 391) 3 162 2 11 0, none, none, kK (.lstore_n 1) 1 1, kJ (.aload_n 0) 1, kI (.getfield 43) 3 11 5 0 0, none, none, kK (.lload_n 1) 1 1, kI (.invokevirtual 394) 3 66 2 7 0, none, none, kK (.lstore_n 1) 1 1, kK (.lload_n 1) 1 1, kJ (.aload_n 0) 1, kI (.getfield 50) 3 11 6 0 0, none, none, kK (.getfield 396) 3 9, none, none, kJ (.aload_n 0) 1, kI (.getfield 50) 3 11 6 0 0, none, none, kI (.getfield 378) 3 9 1 0 0, none, none, kI (.invokestatic 399) 3 107 3 0 0, none, none, kK (.lstore_n 1) 1 1, kJ (.aload_n 0) 1, kI (.getfield 57) 3 11 7 0 0, none, none, kK (.lload_n 1) 1 1, kI (.invokevirtual 403) 3 19 2 2 0, none, none, kK (.lstore_n 1) 1 1, kJ (.aload_n 0) 1, kI (.getfield 64) 3 11 8 0 0, none, none, kK (.lload_n 1) 1 1, kI (.invokevirtual 404) 3 58 2 6 0, none, none, kK (.lstore_n 1) 1 1, kJ (.aload_n 0) 1, kI (.getfield 71) 3 11 9 0 0, none, none, kK (.lload_n 1) 1 1, kI (.invokevirtual 405) 3 27 2 3 0, none, none, kK (.lstore_n 1) 1 1, kJ (.aload_n 0) 1, kI (.getfield 78) 3 11 10 0 0, none, none, kK (.lload_n 1) 1 1, kI (.invokevirtual 406) 3 76 2 8 0, none, none, kK (.lstore_n 1) 1 1, kJ (.aload_n 0) 1, kI (.getfield 85) 3 11 11 0 0, none, none, kK (.lload_n 1) 1 1, kI (.invokevirtual 407) 3 11 2 1 0, none, none, kK (.lstore_n 1) 1 1, kK (.lload_n 1) 1 1, kJ (.aload_n 0) 1, kI (.getfield 36) 3 11 4 0 0, none, none, kK (.getfield 408) 3 10, none, none, kJ (.aload_n 0) 1, kI (.getfield 36) 3 11 4 0 0, none, none, kI (.getfield 198) 3 10 1 0 0, none, none, kI (.invokestatic 399) 3 107 3 0 0, none]
def mK160_1 : List (Option mI) := [none, kK (.lstore_n 1) 1 1, kJ (.iconst 0) 1, kK (.istore_n 3) 1 3, kK (.iload_n 3) 1 3, kV (.bipush 12) 2 12, none, kK (.if_icmp .gt 20) 3 147, none, none, kK (.lload_n 1) 1 1, kJ (.aload_n 0) 1, kK (.iload_n 3) 1 3, kI (.invokevirtual 370) 3 159 2 11 0, none, none, kJ .i2l 1, kI (.invokestatic 95) 3 106 2 0 0, none, none, kK (.lstore_n 1) 1 1, kI (.iinc 3 1) 3 3 0 0 1, none, none, kK (.goto (-20)) 3 124, none, none, kK (.lload_n 1) 1 1, kJ .lreturn 1]
def mK160 : List (Option mI) := mK160_0 ++ (mK160_1)
def mK161 : List (Option mI) := [kJ (.iconst 0) 1, kK (.istore_n 3) 1 3, kK (.iload_n 3) 1 3, kJ (.aload_n 0) 1, kI (.getfield 29) 3 11 3 0 0, none, none, kI (.getfield 376) 3 5 3 0 0, none, none, kK (.if_icmp .ge 52) 3 62, none, none, kJ (.iconst 0) 1, kK (.istore 4) 2 4, none, kK (.iload 4) 2 4, none, kV (.bipush 8) 2 8, none, kK (.if_icmp .gt 36) 3 56, none, none, kK (.lload_n 1) 1 1, kJ (.aload_n 0) 1, kI (.getfield 29) 3 11 3 0 0, none, none, kK (.iload_n 3) 1 3, kK (.iload 4) 2 4, none, kJ (.aload_n 0) 1, kI (.getfield 19) 3 11 1 0 0, none, none, kJ (.aload_n 0) 1, kK (.getfield 10) 3 11, none, none, kI (.getfield 99) 3 4 4 0 0, none, none, kI (.invokevirtual 179) 3 43 5 5 0, none, none, kJ .i2l 1, kI (.invokestatic 95) 3 106 2 0 0, none, none, kK (.lstore_n 1) 1 1, kI (.iinc 4 1) 3 4 0 0 1, none, none, kK (.goto (-37)) 3 16, none, none, kI (.iinc 3 1) 3 3 0 0 1, none, none, kK (.goto (-57)) 3 2, none, none, kK (.lload_n 1) 1 1, kJ .lreturn 1]
def mK162 : List (Option mI) := [kJ (.iconst 0) 1, kK (.istore_n 3) 1 3, kK (.iload_n 3) 1 3, kJ (.aload_n 0) 1, kI (.getfield 36) 3 11 4 0 0, none, none, kI (.getfield 223) 3 10 2 0 0, none, none, kK (.if_icmp .ge 56) 3 66, none, none, kJ (.iconst 0) 1, kK (.istore 4) 2 4, none, kK (.iload 4) 2 4, none, kJ (.aload_n 0) 1, kI (.getfield 29) 3 11 3 0 0, none, none, kI (.getfield 376) 3 5 3 0 0, none, none, kK (.if_icmp .ge 35) 3 60, none, none, kK (.lload_n 1) 1 1, kJ (.aload_n 0) 1, kK (.iload_n 3) 1 3, kK (.iload 4) 2 4, none, kJ (.iconst 0) 1, kI (.invokevirtual 215) 3 128 4 11 0, none, none, kI (.invokestatic 95) 3 106 2 0 0, none, none, kK (.lstore_n 1) 1 1, kK (.lload_n 1) 1 1, kJ (.aload_n 0) 1, kK (.iload_n 3) 1 3, kK (.iload 4) 2 4, none, kV (.iconst 1) 1 1, kI (.invokevirtual 215) 3 128 4 11 0, none, none, kI (.invokestatic 95) 3 106 2 0 0, none, none, kK (.lstore_n 1) 1 1, kI (.iinc 4 1) 3 4 0 0 1, none, none, kK (.goto (-41)) 3 16, none, none, kI (.iinc 3 1) 3 3 0 0 1, none, none, kK (.goto (-61)) 3 2, none, none, kK (.lload_n 1) 1 1, kJ .lreturn 1]
def mK163_0 : List (Option mI) := [kJ (.aload_n 0) 1, kI (.invokespecial 1) 3 0 0 1 0, none, none, kJ (.aload_n 0) 1, kV (.bipush 12) 2 12, none, kJ (.newarray .int) 2, none, kI (.putfield 7) 3 12 0 3 0, none, none, kJ (.aload_n 0) 1, kV (.bipush 12) 2 12, none, kJ (.newarray .int) 2, none, kI (.putfield 13) 3 12 1 3 0, none, none, kJ (.aload_n 0) 1, kV (.bipush 12) 2 12, none, kK (.newarray .boolean) 2 2, none, kI (.putfield 16) 3 12 2 3 0, none, none, kJ (.aload_n 0) 1, kV (.iconst 5) 1 5, kI (.putfield 20) 3 12 3 0 0, none, none, kJ (.aload_n 0) 1, kV (.bipush 20) 2 20, none, kI (.putfield 24) 3 12 4 0 0, none, none, kJ (.aload_n 0) 1, kV (.iconst 1) 1 1, kI (.putfield 27) 3 12 5 0 0, none, none, kJ (.aload_n 0) 1, kV (.ldc 30) 2 1000000, none, kI (.putfield 31) 3 12 8 0 0, none, none, kJ (.aload_n 0) 1, kV (.bipush 6) 2 6, none, kJ (.newarray .int) 2, none, kI (.putfield 34) 3 12 10 3 0, none, none, kJ (.aload_n 0) 1, kV (.bipush 6) 2 6, none, kJ (.newarray .int) 2, none, kI (.putfield 37) 3 12 11 3 0, none, none, kJ (.aload_n 0) 1, kV (.bipush 20) 2 20, none, kJ (.newarray .int) 2, none, kI (.putfield 40) 3 12 13 3 0, none, none, kJ (.aload_n 0) 1, kV (.bipush 20) 2 20, none, kJ (.newarray .int) 2, none, kI (.putfield 43) 3 12 14 3 0, none, none, kJ (.aload_n 0) 1, kV (.bipush 20) 2 20, none, kJ (.newarray .int) 2, none, kI (.putfield 46) 3 12 15 3 0, none, none, kJ (.aload_n 0) 1, kV (.bipush 20) 2 20, none, kJ (.newarray .int) 2, none, kI (.putfield 49) 3 12 16 3 0, none, none, kJ (.aload_n 0) 1, kV (.bipush 60) 2 60, none, kJ (.newarray .int) 2, none, kI (.putfield 52) 3 12 17 3 0, none, none, kJ (.aload_n 0) 1, kV (.bipush 60) 2 60, none, kK (.newarray .byte) 2 1, none, kI (.putfield 55) 3 12 19 3 0, none, none, kJ (.aload_n 0) 1, kV (.sipush 720) 3 720, none, none, kK (.newarray .byte) 2 1, none]
def mK163_1 : List (Option mI) := [kI (.putfield 59) 3 12 21 3 0, none, none, kJ (.aload_n 0) 1, kV (.bipush 12) 2 12, none, kJ (.newarray .int) 2, none, kI (.putfield 62) 3 12 22 3 0, none, none, kJ (.aload_n 0) 1, kV (.bipush 24) 2 24, none, kJ (.newarray .int) 2, none, kI (.putfield 65) 3 12 24 3 0, none, none, kJ (.aload_n 0) 1, kV (.bipush 24) 2 24, none, kJ (.newarray .int) 2, none, kI (.putfield 68) 3 12 25 3 0, none, none, kJ (.aload_n 0) 1, kV (.iconst 5) 1 5, kI (.putfield 71) 3 12 26 0 0, none, none, kJ (.aload_n 0) 1, kV (.bipush 8) 2 8, none, kJ (.newarray .int) 2, none, kI (.putfield 74) 3 12 28 3 0, none, none, kJ (.aload_n 0) 1, kV (.bipush 6) 2 6, none, kJ (.newarray .int) 2, none, kI (.putfield 77) 3 12 30 3 0, none, none, kJ (.aload_n 0) 1, kV (.bipush 6) 2 6, none, kJ (.newarray .int) 2, none, kI (.putfield 80) 3 12 31 3 0, none, none, kJ (.aload_n 0) 1, kV (.bipush 24) 2 24, none, kJ (.newarray .int) 2, none, kI (.putfield 83) 3 12 32 3 0, none, none, kJ (.aload_n 0) 1, kV (.iconst 4) 1 4, kJ (.newarray .int) 2, none, kI (.putfield 86) 3 12 33 3 0, none, none, kJ (.aload_n 0) 1, kV (.iconst 1) 1 1, kI (.putfield 89) 3 12 34 0 0, none, none, kJ (.aload_n 0) 1, kV (.bipush 100) 2 100, none, kI (.putfield 92) 3 12 35 0 0, none, none, kJ (.aload_n 0) 1, kV (.iconst 1) 1 1, kI (.putfield 95) 3 12 36 0 0, none, none, kJ (.aload_n 0) 1, kV (.iconst 2) 1 2, kI (.putfield 98) 3 12 37 0 0, none, none, kJ (.aload_n 0) 1, kV (.iconst 3) 1 3, kI (.putfield 101) 3 12 38 0 0, none, none, kJ (.aload_n 0) 1, kV (.iconst 5) 1 5, kJ (.newarray .int) 2, none, kI (.putfield 104) 3 12 40 3 0, none, none, kJ (.aload_n 0) 1, kV (.iconst 5) 1 5, kJ (.newarray .int) 2, none, kI (.putfield 107) 3 12 41 3 0, none, none, kJ (.aload_n 0) 1, kV (.bipush 8) 2 8, none, kJ (.newarray .int) 2, none, kI (.putfield 110) 3 12 43 3 0, none, none, kJ (.aload_n 0) 1]
def mK163_2 : List (Option mI) := [kV (.bipush 8) 2 8, none, kJ (.newarray .int) 2, none, kI (.putfield 113) 3 12 44 3 0, none, none, kJ (.aload_n 0) 1, kV (.bipush 64) 2 64, none, kJ (.newarray .int) 2, none, kI (.putfield 116) 3 12 45 3 0, none, none, kJ (.aload_n 0) 1, kV (.iconst 5) 1 5, kJ (.newarray .int) 2, none, kI (.putfield 119) 3 12 47 3 0, none, none, kJ (.aload_n 0) 1, kV (.iconst 5) 1 5, kJ (.newarray .int) 2, none, kI (.putfield 122) 3 12 48 3 0, none, none, kJ (.aload_n 0) 1, kV (.bipush 50) 2 50, none, kI (.putfield 125) 3 12 49 0 0, none, none, kJ (.aload_n 0) 1, kV (.iconst 2) 1 2, kI (.putfield 128) 3 12 50 0 0, none, none, kJ (.aload_n 0) 1, kV (.bipush 80) 2 80, none, kI (.putfield 131) 3 12 51 0 0, none, none, kJ (.aload_n 0) 1, kV (.bipush 10) 2 10, none, kI (.putfield 134) 3 12 52 0 0, none, none, kJ (.aload_n 0) 1, kV (.bipush 8) 2 8, none, kJ (.newarray .int) 2, none, kI (.putfield 137) 3 12 54 3 0, none, none, kJ (.aload_n 0) 1, kV (.bipush 40) 2 40, none, kJ (.newarray .int) 2, none, kI (.putfield 140) 3 12 55 3 0, none, none, kJ (.aload_n 0) 1, kV (.bipush 12) 2 12, none, kJ (.newarray .int) 2, none, kI (.putfield 143) 3 12 56 3 0, none, none, kJ (.aload_n 0) 1, kV (.bipush 12) 2 12, none, kJ (.newarray .int) 2, none, kI (.putfield 146) 3 12 57 3 0, none, none, kJ (.aload_n 0) 1, kV (.bipush 20) 2 20, none, kJ (.newarray .int) 2, none, kI (.putfield 149) 3 12 58 3 0, none, none, kJ (.aload_n 0) 1, kV (.bipush 61) 2 61, none, kK (.newarray .long) 2 3, none, kI (.putfield 152) 3 12 64 3 0, none, none, kJ (.aload_n 0) 1, kV (.bipush 61) 2 61, none, kK (.newarray .long) 2 3, none, kI (.putfield 156) 3 12 65 3 0, none, none, kJ (.aload_n 0) 1, kV (.bipush 9) 2 9, none, kJ (.newarray .int) 2, none, kI (.putfield 159) 3 12 67 3 0, none, none, kJ (.aload_n 0) 1, kV (.iconst 4) 1 4, kJ (.newarray .int) 2, none]
def mK163_3 : List (Option mI) := [kI (.putfield 162) 3 12 68 3 0, none, none, kJ (.aload_n 0) 1, kV (.bipush 9) 2 9, none, kJ (.newarray .int) 2, none, kI (.putfield 165) 3 12 69 3 0, none, none, kJ (.aload_n 0) 1, kV (.bipush 8) 2 8, none, kJ (.newarray .int) 2, none, kI (.putfield 168) 3 12 71 3 0, none, none, kJ (.aload_n 0) 1, kV (.bipush 6) 2 6, none, kJ (.newarray .int) 2, none, kI (.putfield 171) 3 12 72 3 0, none, none, kJ (.aload_n 0) 1, kV (.iconst 5) 1 5, kJ (.newarray .int) 2, none, kI (.putfield 174) 3 12 73 3 0, none, none, kJ (.aload_n 0) 1, kV (.sipush 200) 3 200, none, none, kJ (.newarray .int) 2, none, kI (.putfield 177) 3 12 74 3 0, none, none, kJ (.aload_n 0) 1, kV (.sipush 200) 3 200, none, none, kJ (.newarray .int) 2, none, kI (.putfield 180) 3 12 75 3 0, none, none, kJ (.iconst 0) 1, kK (.istore_n 1) 1 1, kK (.iload_n 1) 1 1, kV (.bipush 12) 2 12, none, kK (.if_icmp .ge 39) 3 456, none, none, kJ (.aload_n 0) 1, kK (.getfield 7) 3 12, none, none, kK (.iload_n 1) 1 1, kV (.bipush 100) 2 100, none, kJ .iastore 1, kJ (.aload_n 0) 1, kI (.getfield 13) 3 12 1 0 0, none, none, kK (.iload_n 1) 1 1, kV (.iconst 4) 1 4, kJ .iastore 1, kJ (.aload_n 0) 1, kI (.getfield 16) 3 12 2 0 0, none, none, kK (.iload_n 1) 1 1, kK (.iload_n 1) 1 1, kK (.ifCond .ne 7) 3 448, none, none, kV (.iconst 1) 1 1, kK (.goto 4) 3 449, none, none, kJ (.iconst 0) 1, kJ .bastore 1, kI (.iinc 1 1) 3 1 0 0 1, none, none, kK (.goto (-39)) 3 414, none, none, kJ (.iconst 0) 1, kK (.istore_n 1) 1 1, kK (.iload_n 1) 1 1, kV (.bipush 24) 2 24, none, kK (.if_icmp .ge 17) 3 478, none, none, kJ (.aload_n 0) 1, kI (.getfield 83) 3 12 32 0 0, none, none, kK (.iload_n 1) 1 1, kV (.bipush 10) 2 10, none, kJ .iastore 1, kI (.iinc 1 1) 3 1 0 0 1, none, none, kK (.goto (-17)) 3 458, none, none, kJ .return_ 1]
def mK163 : List (Option mI) := mK163_0 ++ (mK163_1 ++ (mK163_2 ++ (mK163_3)))
def mK164 : List (Option mI) := [kJ (.iload_n 0) 1, kK (.iload_n 1) 1 1, kK (.if_icmp .lt 12) 3 14, none, none, kJ (.iload_n 0) 1, kK (.iload_n 2) 1 2, kK (.if_icmp .gt 7) 3 14, none, none, kV (.iconst 1) 1 1, kK (.goto 4) 3 15, none, none, kJ (.iconst 0) 1, kJ .ireturn 1]
def mK165 : List (Option mI) := [kJ (.iload_n 0) 1, kJ (.iconst 0) 1, kV (.bipush 11) 2 11, none, kI (.invokestatic 183) 3 164 3 0 0, none, none, kJ .ireturn 1]
def mK166 : List (Option mI) := [kJ (.iload_n 0) 1, kK (.ifCond .lt 9) 3 10, none, none, kJ (.iload_n 0) 1, kK (.iload_n 1) 1 1, kJ .idiv 1, kK (.goto 11) 3 18, none, none, kK (.iload_n 1) 1 1, kV (.iconst 1) 1 1, kJ .isub 1, kJ (.iload_n 0) 1, kJ .isub 1, kK (.iload_n 1) 1 1, kJ .idiv 1, kJ .ineg 1, kJ .ireturn 1]
def mK167 : List (Option mI) := [kK (.iload_n 1) 1 1, kV (.iconst 1) 1 1, kV (.sipush 200) 3 200, none, none, kI (.invokestatic 183) 3 164 3 0 0, none, none, kK (.ifCond .eq 15) 3 23, none, none, kK (.iload_n 2) 1 2, kV (.bipush (-50)) 2 (-50), none, kV (.sipush 400) 3 400, none, none, kI (.invokestatic 183) 3 164 3 0 0, none, none, kK (.ifCond .ne 6) 3 26, none, none, kV (.bipush (-102)) 2 (-102), none, kJ .ireturn 1, kJ (.aload_n 0) 1, kI (.getfield 187) 3 12 7 0 0, none, none, kK (.ifCond .le 6) 3 36, none, none, kV (.bipush (-103)) 2 (-103), none, kJ .ireturn 1, kJ (.aload_n 0) 1, kI (.getfield 190) 3 12 9 0 0, none, none, kV (.bipush 6) 2 6, none, kK (.if_icmp .ne 6) 3 48, none, none, kV (.bipush (-104)) 2 (-104), none, kJ .ireturn 1, kJ (.aload_n 0) 1, kI (.getfield 34) 3 12 10 0 0, none, none, kJ (.aload_n 0) 1, kI (.getfield 190) 3 12 9 0 0, none, none, kK (.iload_n 1) 1 1, kJ .iastore 1, kJ (.aload_n 0) 1, kI (.getfield 37) 3 12 11 0 0, none, none, kJ (.aload_n 0) 1, kI (.getfield 190) 3 12 9 0 0, none, none, kK (.iload_n 2) 1 2, kJ .iastore 1, kJ (.aload_n 0) 1, kJ .dup 1, kI (.getfield 190) 3 12 9 0 0, none, none, kV (.iconst 1) 1 1, kJ .iadd 1, kI (.putfield 190) 3 12 9 0 0, none, none, kJ (.aload_n 0) 1, kI (.getfield 190) 3 12 9 0 0, none, none, kJ .ireturn 1]
def mK168 : List (Option mI) := [kK (.iload_n 1) 1 1, kI (.invokestatic 193) 3 165 1 0 0, none, none, kK (.ifCond .ne 7) 3 11, none, none, kV (.sipush (-1001)) 3 (-1001), none, none, kJ .ireturn 1, kK (.iload_n 2) 1 2, kV (.sipush (-300)) 3 (-300), none, none, kV (.sipush 600) 3 600, none, none, kI (.invokestatic 183) 3 164 3 0 0, none, none, kK (.ifCond .ne 7) 3 28, none, none, kV (.sipush (-1002)) 3 (-1002), none, none, kJ .ireturn 1, kJ (.aload_n 0) 1, kK (.getfield 7) 3 12, none, none, kK (.iload_n 1) 1 1, kJ .iaload 1, kK (.istore_n 3) 1 3, kJ (.aload_n 0) 1, kK (.getfield 7) 3 12, none, none, kK (.iload_n 1) 1 1, kK (.iload_n 2) 1 2, kJ .iastore 1, kK (.iload_n 3) 1 3, kJ .ireturn 1]
def mK169 : List (Option mI) := [kK (.iload_n 1) 1 1, kI (.invokestatic 193) 3 165 1 0 0, none, none, kK (.ifCond .eq 12) 3 16, none, none, kJ (.aload_n 0) 1, kK (.getfield 7) 3 12, none, none, kK (.iload_n 1) 1 1, kJ .iaload 1, kK (.goto 6) 3 19, none, none, kV (.sipush (-1001)) 3 (-1001), none, none, kJ .ireturn 1]
def mK170 : List (Option mI) := [kK (.iload_n 1) 1 1, kI (.invokestatic 193) 3 165 1 0 0, none, none, kK (.ifCond .ne 6) 3 10, none, none, kV (.bipush (-101)) 2 (-101), none, kJ .ireturn 1, kK (.iload_n 2) 1 2, kJ (.iconst 0) 1, kV (.bipush 20) 2 20, none, kI (.invokestatic 183) 3 164 3 0 0, none, none, kK (.ifCond .ne 6) 3 23, none, none, kV (.bipush (-102)) 2 (-102), none, kJ .ireturn 1, kJ (.aload_n 0) 1, kI (.getfield 13) 3 12 1 0 0, none, none, kK (.iload_n 1) 1 1, kJ .iaload 1, kK (.istore_n 3) 1 3, kJ (.aload_n 0) 1, kI (.getfield 13) 3 12 1 0 0, none, none, kK (.iload_n 1) 1 1, kK (.iload_n 2) 1 2, kJ .iastore 1, kK (.iload_n 3) 1 3, kJ .ireturn 1]
def mK171 : List (Option mI) := [kK (.iload_n 1) 1 1, kI (.invokestatic 193) 3 165 1 0 0, none, none, kK (.ifCond .ne 6) 3 10, none, none, kV (.bipush (-101)) 2 (-101), none, kJ .ireturn 1, kJ (.aload_n 0) 1, kI (.getfield 16) 3 12 2 0 0, none, none, kK (.iload_n 1) 1 1, kJ .baload 1, kK (.ifCond .eq 7) 3 23, none, none, kV (.iconst 1) 1 1, kK (.goto 4) 3 24, none, none, kJ (.iconst 0) 1, kK (.istore_n 3) 1 3, kJ (.aload_n 0) 1, kI (.getfield 16) 3 12 2 0 0, none, none, kK (.iload_n 1) 1 1, kK (.iload_n 2) 1 2, kJ .bastore 1, kK (.iload_n 3) 1 3, kJ .ireturn 1]
def mK172_0 : List (Option mI) := [kK (.iload_n 1) 1 1, kJ (.iconst 0) 1, kV (.iconst 3) 1 3, kI (.invokestatic 183) 3 164 3 0 0, none, none, kK (.ifCond .ne 6) 3 12, none, none, kV (.bipush (-101)) 2 (-101), none, kJ .ireturn 1, kK (.iload_n 1) 1 1, kK (.ifCond .ne 8) 3 21, none, none, kV (.bipush 20) 2 20, none, kK (.goto 26) 3 44, none, none, kK (.iload_n 1) 1 1, kV (.iconst 1) 1 1, kK (.if_icmp .ne 8) 3 31, none, none, kV (.bipush 60) 2 60, none, kK (.goto 16) 3 44, none, none, kK (.iload_n 1) 1 1, kV (.iconst 2) 1 2, kK (.if_icmp .ne 8) 3 41, none, none, kV (.bipush 9) 2 9, none, kK (.goto 6) 3 44, none, none, kV (.sipush 9999) 3 9999, none, none, kK (.istore_n 3) 1 3, kK (.iload_n 2) 1 2, kK (.iload_n 1) 1 1, kV (.iconst 2) 1 2, kK (.if_icmp .ne 7) 3 55, none, none, kV (.iconst 1) 1 1, kK (.goto 4) 3 56, none, none, kJ (.iconst 0) 1, kK (.iload_n 3) 1 3, kI (.invokestatic 183) 3 164 3 0 0, none, none, kK (.ifCond .ne 6) 3 66, none, none, kV (.bipush (-102)) 2 (-102), none, kJ .ireturn 1, kK (.iload_n 1) 1 1, kK (.ifCond .ne 10) 3 77, none, none, kJ (.aload_n 0) 1, kI (.getfield 20) 3 12 3 0 0, none, none, kK (.goto 31) 3 105, none, none, kK (.iload_n 1) 1 1, kV (.iconst 1) 1 1, kK (.if_icmp .ne 10) 3 89, none, none, kJ (.aload_n 0) 1, kI (.getfield 24) 3 12 4 0 0, none, none, kK (.goto 19) 3 105, none, none, kK (.iload_n 1) 1 1, kV (.iconst 2) 1 2, kK (.if_icmp .ne 10) 3 101, none, none, kJ (.aload_n 0) 1, kI (.getfield 27) 3 12 5 0 0, none, none, kK (.goto 7) 3 105, none, none, kJ (.aload_n 0) 1, kI (.getfield 197) 3 12 6 0 0, none, none, kK (.istore 4) 2 4, none, kJ (.aload_n 0) 1, kK (.iload_n 1) 1 1, kK (.ifCond .ne 7) 3 116, none, none, kK (.iload_n 2) 1 2, kK (.goto 7) 3 120, none, none, kJ (.aload_n 0) 1, kI (.getfield 20) 3 12 3 0 0, none, none]
def mK172_1 : List (Option mI) := [kI (.putfield 20) 3 12 3 0 0, none, none, kJ (.aload_n 0) 1, kK (.iload_n 1) 1 1, kV (.iconst 1) 1 1, kK (.if_icmp .ne 7) 3 133, none, none, kK (.iload_n 2) 1 2, kK (.goto 7) 3 137, none, none, kJ (.aload_n 0) 1, kI (.getfield 24) 3 12 4 0 0, none, none, kI (.putfield 24) 3 12 4 0 0, none, none, kJ (.aload_n 0) 1, kK (.iload_n 1) 1 1, kV (.iconst 2) 1 2, kK (.if_icmp .ne 7) 3 150, none, none, kK (.iload_n 2) 1 2, kK (.goto 7) 3 154, none, none, kJ (.aload_n 0) 1, kI (.getfield 27) 3 12 5 0 0, none, none, kI (.putfield 27) 3 12 5 0 0, none, none, kJ (.aload_n 0) 1, kK (.iload_n 1) 1 1, kV (.iconst 3) 1 3, kK (.if_icmp .ne 7) 3 167, none, none, kK (.iload_n 2) 1 2, kK (.goto 7) 3 171, none, none, kJ (.aload_n 0) 1, kI (.getfield 197) 3 12 6 0 0, none, none, kI (.putfield 197) 3 12 6 0 0, none, none, kK (.iload 4) 2 4, none, kJ .ireturn 1]
def mK172 : List (Option mI) := mK172_0 ++ (mK172_1)
def mK173 : List (Option mI) := [kK (.iload_n 1) 1 1, kV (.iconst (-1)) 1 (-1), kK (.if_icmp .lt 10) 3 12, none, none, kK (.iload_n 1) 1 1, kV (.sipush 1200) 3 1200, none, none, kK (.if_icmp .le 6) 3 15, none, none, kV (.bipush (-102)) 2 (-102), none, kJ .ireturn 1, kJ (.aload_n 0) 1, kK (.iload_n 1) 1 1, kV (.iconst (-1)) 1 (-1), kK (.if_icmp .ne 8) 3 26, none, none, kV (.ldc 30) 2 1000000, none, kK (.goto 9) 3 32, none, none, kJ (.aload_n 0) 1, kI (.getfield 187) 3 12 7 0 0, none, none, kK (.iload_n 1) 1 1, kJ .iadd 1, kI (.putfield 31) 3 12 8 0 0, none, none, kV (.iconst 1) 1 1, kJ .ireturn 1]
def mK174 : List (Option mI) := [kJ (.iconst 0) 1, kK (.istore_n 2) 1 2, kV (.sipush 150) 3 150, none, none, kK (.istore_n 3) 1 3, kJ (.iconst 0) 1, kK (.istore 4) 2 4, none, kK (.iload 4) 2 4, none, kJ (.aload_n 0) 1, kI (.getfield 190) 3 12 9 0 0, none, none, kK (.if_icmp .ge 32) 3 47, none, none, kK (.iload_n 1) 1 1, kK (.iload_n 2) 1 2, kK (.if_icmp .lt 11) 3 31, none, none, kJ (.aload_n 0) 1, kI (.getfield 37) 3 12 11 0 0, none, none, kK (.iload 4) 2 4, none, kJ .iaload 1, kK (.istore_n 3) 1 3, kK (.iload_n 2) 1 2, kJ (.aload_n 0) 1, kI (.getfield 34) 3 12 10 0 0, none, none, kK (.iload 4) 2 4, none, kJ .iaload 1, kJ .iadd 1, kK (.istore_n 2) 1 2, kI (.iinc 4 1) 3 4 0 0 1, none, none, kK (.goto (-35)) 3 9, none, none, kK (.iload_n 3) 1 3, kJ .ireturn 1]
def mK175 : List (Option mI) := [kK (.iload_n 1) 1 1, kJ (.iconst 0) 1, kV (.sipush 9999) 3 9999, none, none, kI (.invokestatic 183) 3 164 3 0 0, none, none, kK (.ifCond .eq 11) 3 19, none, none, kJ (.aload_n 0) 1, kK (.iload_n 1) 1 1, kI (.invokevirtual 200) 3 174 2 12 0, none, none, kK (.goto 6) 3 22, none, none, kV (.sipush (-1002)) 3 (-1002), none, none, kJ .ireturn 1]
def mK176 : List (Option mI) := [kJ (.iconst 0) 1, kK (.istore_n 1) 1 1, kK (.iload_n 1) 1 1, kV (.bipush 12) 2 12, none, kK (.if_icmp .ge 21) 3 26, none, none, kJ (.aload_n 0) 1, kI (.getfield 143) 3 12 56 0 0, none, none, kK (.iload_n 1) 1 1, kJ (.aload_n 0) 1, kK (.getfield 7) 3 12, none, none, kK (.iload_n 1) 1 1, kJ .iaload 1, kJ .iastore 1, kI (.iinc 1 1) 3 1 0 0 1, none, none, kK (.goto (-21)) 3 2, none, none, kJ (.iconst 0) 1, kK (.istore_n 1) 1 1, kK (.iload_n 1) 1 1, kJ (.aload_n 0) 1, kI (.getfield 204) 3 12 12 0 0, none, none, kK (.if_icmp .ge 21) 3 54, none, none, kJ (.aload_n 0) 1, kI (.getfield 149) 3 12 58 0 0, none, none, kK (.iload_n 1) 1 1, kJ (.aload_n 0) 1, kI (.getfield 46) 3 12 15 0 0, none, none, kK (.iload_n 1) 1 1, kJ .iaload 1, kJ .iastore 1, kI (.iinc 1 1) 3 1 0 0 1, none, none, kK (.goto (-23)) 3 28, none, none, kJ (.aload_n 0) 1, kJ (.aload_n 0) 1, kI (.getfield 197) 3 12 6 0 0, none, none, kI (.putfield 207) 3 12 59 0 0, none, none, kJ (.aload_n 0) 1, kJ (.aload_n 0) 1, kI (.getfield 187) 3 12 7 0 0, none, none, kI (.putfield 210) 3 12 60 0 0, none, none, kJ (.aload_n 0) 1, kJ (.aload_n 0) 1, kI (.getfield 31) 3 12 8 0 0, none, none, kI (.putfield 213) 3 12 61 0 0, none, none, kJ .return_ 1]
def mK177 : List (Option mI) := [kJ (.iconst 0) 1, kK (.istore_n 2) 1 2, kK (.iload_n 2) 1 2, kK (.iload_n 1) 1 1, kV (.iconst 4) 1 4, kK (.if_icmp .lt 21) 3 26, none, none, kJ (.aload_n 0) 1, kI (.getfield 146) 3 12 57 0 0, none, none, kK (.iload_n 1) 1 1, kV (.iconst 4) 1 4, kJ .isub 1, kJ .iaload 1, kJ (.aload_n 0) 1, kI (.getfield 146) 3 12 57 0 0, none, none, kK (.iload_n 1) 1 1, kJ .iaload 1, kJ .isub 1, kK (.goto 4) 3 27, none, none, kJ (.iconst 0) 1, kJ .iadd 1, kK (.istore_n 2) 1 2, kK (.iload_n 2) 1 2, kK (.iload_n 1) 1 1, kV (.bipush 8) 2 8, none, kK (.if_icmp .ge 21) 3 54, none, none, kJ (.aload_n 0) 1, kI (.getfield 146) 3 12 57 0 0, none, none, kK (.iload_n 1) 1 1, kV (.iconst 4) 1 4, kJ .iadd 1, kJ .iaload 1, kJ (.aload_n 0) 1, kI (.getfield 146) 3 12 57 0 0, none, none, kK (.iload_n 1) 1 1, kJ .iaload 1, kJ .isub 1, kK (.goto 4) 3 55, none, none, kJ (.iconst 0) 1, kJ .iadd 1, kK (.istore_n 2) 1 2, kK (.iload_n 2) 1 2, kK (.iload_n 1) 1 1, kV (.iconst 4) 1 4, kJ .irem 1, kK (.ifCond .le 21) 3 82, none, none, kJ (.aload_n 0) 1, kI (.getfield 146) 3 12 57 0 0, none, none, kK (.iload_n 1) 1 1, kV (.iconst 1) 1 1, kJ .isub 1, kJ .iaload 1, kJ (.aload_n 0) 1, kI (.getfield 146) 3 12 57 0 0, none, none, kK (.iload_n 1) 1 1, kJ .iaload 1, kJ .isub 1, kK (.goto 4) 3 83, none, none, kJ (.iconst 0) 1, kJ .iadd 1, kK (.istore_n 2) 1 2, kK (.iload_n 2) 1 2, kK (.iload_n 1) 1 1, kV (.iconst 4) 1 4, kJ .irem 1, kV (.iconst 3) 1 3, kK (.if_icmp .ge 21) 3 111, none, none, kJ (.aload_n 0) 1, kI (.getfield 146) 3 12 57 0 0, none, none, kK (.iload_n 1) 1 1, kV (.iconst 1) 1 1, kJ .iadd 1, kJ .iaload 1, kJ (.aload_n 0) 1, kI (.getfield 146) 3 12 57 0 0, none, none, kK (.iload_n 1) 1 1, kJ .iaload 1, kJ .isub 1, kK (.goto 4) 3 112, none, none, kJ (.iconst 0) 1, kJ .iadd 1, kK (.istore_n 2) 1 2, kK (.iload_n 2) 1 2, kJ .ireturn 1]
def mK178_0 : List (Option mI) := [kJ (.aload_n 0) 1, kI (.getfield 207) 3 12 59 0 0, none, none, kJ (.aload_n 0) 1, kI (.getfield 27) 3 12 5 0 0, none, none, kK (.if_icmp .lt 18) 3 26, none, none, kJ (.aload_n 0) 1, kI (.getfield 210) 3 12 60 0 0, none, none, kJ (.aload_n 0) 1, kI (.getfield 213) 3 12 61 0 0, none, none, kK (.if_icmp .ge 7) 3 26, none, none, kV (.iconst 1) 1 1, kK (.goto 4) 3 27, none, none, kJ (.iconst 0) 1, kK (.istore_n 2) 1 2, kJ (.aload_n 0) 1, kJ .dup 1, kI (.getfield 207) 3 12 59 0 0, none, none, kK (.iload_n 2) 1 2, kK (.ifCond .eq 10) 3 44, none, none, kJ (.aload_n 0) 1, kI (.getfield 27) 3 12 5 0 0, none, none, kK (.goto 4) 3 45, none, none, kJ (.iconst 0) 1, kJ .isub 1, kI (.putfield 207) 3 12 59 0 0, none, none, kJ (.iconst 0) 1, kK (.istore_n 3) 1 3, kK (.iload_n 3) 1 3, kV (.bipush 12) 2 12, none, kK (.if_icmp .ge 21) 3 75, none, none, kJ (.aload_n 0) 1, kI (.getfield 146) 3 12 57 0 0, none, none, kK (.iload_n 3) 1 3, kJ (.aload_n 0) 1, kI (.getfield 143) 3 12 56 0 0, none, none, kK (.iload_n 3) 1 3, kJ .iaload 1, kJ .iastore 1, kI (.iinc 3 1) 3 3 0 0 1, none, none, kK (.goto (-21)) 3 51, none, none, kJ (.iconst 0) 1, kK (.istore_n 3) 1 3, kK (.iload_n 3) 1 3, kV (.bipush 12) 2 12, none, kK (.if_icmp .ge 93) 3 173, none, none, kJ (.aload_n 0) 1, kI (.getfield 146) 3 12 57 0 0, none, none, kK (.iload_n 3) 1 3, kJ .iaload 1, kJ (.aload_n 0) 1, kI (.getfield 20) 3 12 3 0 0, none, none, kJ (.aload_n 0) 1, kK (.iload_n 3) 1 3, kI (.invokevirtual 216) 3 177 2 12 0, none, none, kJ .imul 1, kJ (.aload_n 0) 1, kI (.getfield 13) 3 12 1 0 0, none, none, kK (.iload_n 3) 1 3, kJ .iaload 1, kK (.iload_n 1) 1 1, kJ (.aload_n 0) 1, kI (.getfield 146) 3 12 57 0 0, none, none, kK (.iload_n 3) 1 3, kJ .iaload 1, kJ .isub 1, kJ .imul 1, kJ .iadd 1, kV (.bipush 100) 2 100, none, kI (.invokestatic 219) 3 166 2 0 0, none, none]
def mK178_1 : List (Option mI) := [kJ .iadd 1, kK (.iload_n 2) 1 2, kK (.ifCond .eq 19) 3 141, none, none, kJ (.aload_n 0) 1, kI (.getfield 16) 3 12 2 0 0, none, none, kK (.iload_n 3) 1 3, kJ .baload 1, kK (.ifCond .eq 10) 3 141, none, none, kJ (.aload_n 0) 1, kI (.getfield 24) 3 12 4 0 0, none, none, kK (.goto 4) 3 142, none, none, kJ (.iconst 0) 1, kJ .isub 1, kK (.istore 4) 2 4, none, kJ (.aload_n 0) 1, kI (.getfield 143) 3 12 56 0 0, none, none, kK (.iload_n 3) 1 3, kK (.iload 4) 2 4, none, kV (.sipush (-300)) 3 (-300), none, none, kK (.if_icmp .ge 9) 3 164, none, none, kV (.sipush (-300)) 3 (-300), none, none, kK (.goto 5) 3 166, none, none, kK (.iload 4) 2 4, none, kJ .iastore 1, kI (.iinc 3 1) 3 3 0 0 1, none, none, kK (.goto (-93)) 3 77, none, none, kJ (.iconst 0) 1, kK (.istore_n 3) 1 3, kK (.iload_n 3) 1 3, kJ (.aload_n 0) 1, kI (.getfield 204) 3 12 12 0 0, none, none, kK (.if_icmp .ge 38) 3 218, none, none, kJ (.aload_n 0) 1, kI (.getfield 149) 3 12 58 0 0, none, none, kK (.iload_n 3) 1 3, kJ .dup2 1, kJ .iaload 1, kJ (.aload_n 0) 1, kI (.getfield 40) 3 12 13 0 0, none, none, kK (.iload_n 3) 1 3, kJ .iaload 1, kJ (.aload_n 0) 1, kI (.getfield 143) 3 12 56 0 0, none, none, kJ (.aload_n 0) 1, kI (.getfield 43) 3 12 14 0 0, none, none, kK (.iload_n 3) 1 3, kJ .iaload 1, kJ .iaload 1, kI (.invokestatic 223) 3 179 2 0 0, none, none, kJ .iadd 1, kJ .iastore 1, kI (.iinc 3 1) 3 3 0 0 1, none, none, kK (.goto (-40)) 3 175, none, none, kJ (.aload_n 0) 1, kJ .dup 1, kI (.getfield 210) 3 12 60 0 0, none, none, kV (.iconst 1) 1 1, kJ .iadd 1, kI (.putfield 210) 3 12 60 0 0, none, none, kK (.iload_n 2) 1 2, kJ .ireturn 1]
def mK178 : List (Option mI) := mK178_0 ++ (mK178_1)
def mK179 : List (Option mI) := [kK (.iload_n 1) 1 1, kV (.bipush 50) 2 50, none, kJ .iadd 1, kK (.ifCond .ge 7) 3 11, none, none, kJ (.iconst 0) 1, kK (.goto 10) 3 18, none, none, kK (.iload_n 1) 1 1, kV (.bipush 50) 2 50, none, kJ .iadd 1, kV (.bipush 10) 2 10, none, kJ .idiv 1, kK (.istore_n 2) 1 2, kJ (.iload_n 0) 1, kS (.tableswitch 64 1 5 #[36, 36, 38, 64, 52]) 36 84 [(1, 56), (2, 56), (3, 58), (4, 84), (5, 72)], none, none, none, none, none, none, none, none, none, none, none, none, none, none, none, none, none, none, none, none, none, none, none, none, none, none, none, none, none, none, none, none, none, none, none, kK (.iload_n 2) 1 2, kJ .ireturn 1, kK (.iload_n 2) 1 2, kK (.ifCond .ne 7) 3 66, none, none, kJ (.iconst 0) 1, kK (.goto 8) 3 71, none, none, kV (.iconst 2) 1 2, kK (.iload_n 2) 1 2, kJ .imul 1, kV (.iconst 1) 1 1, kJ .iadd 1, kJ .ireturn 1, kK (.iload_n 1) 1 1, kV (.bipush 100) 2 100, none, kK (.if_icmp .le 7) 3 82, none, none, kV (.iconst 1) 1 1, kK (.goto 4) 3 83, none, none, kJ (.iconst 0) 1, kJ .ireturn 1, kJ (.iconst 0) 1, kJ .ireturn 1]
def mK180 : List (Option mI) := [kJ (.iload_n 0) 1, kV (.bipush 100) 2 100, none, kK (.if_icmp .ge 7) 3 10, none, none, kJ (.iconst 0) 1, kK (.goto 26) 3 33, none, none, kJ (.iload_n 0) 1, kV (.sipush 300) 3 300, none, none, kK (.if_icmp .ge 7) 3 21, none, none, kV (.iconst 1) 1 1, kK (.goto 15) 3 33, none, none, kJ (.iload_n 0) 1, kV (.sipush 600) 3 600, none, none, kK (.if_icmp .ge 7) 3 32, none, none, kV (.iconst 2) 1 2, kK (.goto 4) 3 33, none, none, kV (.iconst 3) 1 3, kJ .ireturn 1]
def mK181_0 : List (Option mI) := [kK (.iload_n 1) 1 1, kV (.iconst 1) 1 1, kV (.sipush 300) 3 300, none, none, kI (.invokestatic 183) 3 164 3 0 0, none, none, kK (.ifCond .ne 6) 3 14, none, none, kV (.bipush (-102)) 2 (-102), none, kJ .ireturn 1, kJ (.aload_n 0) 1, kI (.getfield 187) 3 12 7 0 0, none, none, kK (.iload_n 1) 1 1, kJ .iadd 1, kV (.sipush 1200) 3 1200, none, none, kK (.if_icmp .le 6) 3 29, none, none, kV (.bipush (-103)) 2 (-103), none, kJ .ireturn 1, kJ (.iconst 0) 1, kK (.istore_n 2) 1 2, kJ (.aload_n 0) 1, kI (.invokevirtual 226) 3 176 1 12 0, none, none, kJ (.iconst 0) 1, kK (.istore_n 3) 1 3, kK (.iload_n 3) 1 3, kK (.iload_n 1) 1 1, kK (.if_icmp .ge 108) 3 147, none, none, kK (.iload_n 2) 1 2, kJ (.aload_n 0) 1, kJ (.aload_n 0) 1, kJ (.aload_n 0) 1, kI (.getfield 210) 3 12 60 0 0, none, none, kI (.invokevirtual 200) 3 174 2 12 0, none, none, kI (.invokevirtual 229) 3 178 2 12 0, none, none, kK (.ifCond .eq 7) 3 62, none, none, kV (.iconst 1) 1 1, kK (.goto 4) 3 63, none, none, kJ (.iconst 0) 1, kJ .iadd 1, kK (.istore_n 2) 1 2, kJ (.iconst 0) 1, kK (.istore 4) 2 4, none, kK (.iload 4) 2 4, none, kJ (.aload_n 0) 1, kI (.getfield 204) 3 12 12 0 0, none, none, kK (.if_icmp .ge 67) 3 141, none, none, kJ (.iconst 0) 1, kK (.istore 5) 2 5, none, kK (.iload 5) 2 5, none, kJ (.aload_n 0) 1, kI (.getfield 149) 3 12 58 0 0, none, none, kK (.iload 4) 2 4, none, kJ .iaload 1, kI (.invokestatic 232) 3 180 1 0 0, none, none, kK (.if_icmp .ge 43) 3 135, none, none, kJ (.aload_n 0) 1, kI (.getfield 52) 3 12 17 0 0, none, none, kV (.iconst 3) 1 3, kK (.iload 4) 2 4, none, kJ .imul 1, kK (.iload 5) 2 5, none, kJ .iadd 1, kJ .iaload 1, kV (.iconst (-1)) 1 (-1), kK (.if_icmp .ne 21) 3 129, none, none, kJ (.aload_n 0) 1, kI (.getfield 52) 3 12 17 0 0, none, none, kV (.iconst 3) 1 3, kK (.iload 4) 2 4, none, kJ .imul 1, kK (.iload 5) 2 5]
def mK181_1 : List (Option mI) := [none, kJ .iadd 1, kJ (.aload_n 0) 1, kI (.getfield 210) 3 12 60 0 0, none, none, kV (.iconst 1) 1 1, kJ .isub 1, kJ .iastore 1, kI (.iinc 5 1) 3 5 0 0 1, none, none, kK (.goto (-52)) 3 80, none, none, kI (.iinc 4 1) 3 4 0 0 1, none, none, kK (.goto (-70)) 3 68, none, none, kI (.iinc 3 1) 3 3 0 0 1, none, none, kK (.goto (-107)) 3 37, none, none, kJ (.iconst 0) 1, kK (.istore_n 3) 1 3, kK (.iload_n 3) 1 3, kV (.bipush 12) 2 12, none, kK (.if_icmp .ge 21) 3 173, none, none, kJ (.aload_n 0) 1, kK (.getfield 7) 3 12, none, none, kK (.iload_n 3) 1 3, kJ (.aload_n 0) 1, kI (.getfield 143) 3 12 56 0 0, none, none, kK (.iload_n 3) 1 3, kJ .iaload 1, kJ .iastore 1, kI (.iinc 3 1) 3 3 0 0 1, none, none, kK (.goto (-21)) 3 149, none, none, kJ (.iconst 0) 1, kK (.istore_n 3) 1 3, kK (.iload_n 3) 1 3, kJ (.aload_n 0) 1, kI (.getfield 204) 3 12 12 0 0, none, none, kK (.if_icmp .ge 21) 3 201, none, none, kJ (.aload_n 0) 1, kI (.getfield 46) 3 12 15 0 0, none, none, kK (.iload_n 3) 1 3, kJ (.aload_n 0) 1, kI (.getfield 149) 3 12 58 0 0, none, none, kK (.iload_n 3) 1 3, kJ .iaload 1, kJ .iastore 1, kI (.iinc 3 1) 3 3 0 0 1, none, none, kK (.goto (-23)) 3 175, none, none, kJ (.aload_n 0) 1, kJ (.aload_n 0) 1, kI (.getfield 207) 3 12 59 0 0, none, none, kI (.putfield 197) 3 12 6 0 0, none, none, kJ (.aload_n 0) 1, kJ (.aload_n 0) 1, kI (.getfield 210) 3 12 60 0 0, none, none, kI (.putfield 187) 3 12 7 0 0, none, none, kK (.iload_n 2) 1 2, kJ .ireturn 1]
def mK181 : List (Option mI) := mK181_0 ++ (mK181_1)
def mK182 : List (Option mI) := [kJ (.iconst 0) 1, kK (.istore_n 2) 1 2, kK (.iload_n 2) 1 2, kV (.bipush 12) 2 12, none, kK (.if_icmp .ge 21) 3 26, none, none, kJ (.aload_n 0) 1, kI (.getfield 143) 3 12 56 0 0, none, none, kK (.iload_n 2) 1 2, kJ .iaload 1, kK (.iload_n 1) 1 1, kK (.if_icmp .le 5) 3 20, none, none, kK (.iload_n 2) 1 2, kJ .ireturn 1, kI (.iinc 2 1) 3 2 0 0 1, none, none, kK (.goto (-21)) 3 2, none, none, kV (.iconst (-1)) 1 (-1), kJ .ireturn 1]
def mK183 : List (Option mI) := [kK (.iload_n 1) 1 1, kV (.sipush (-300)) 3 (-300), none, none, kV (.sipush 600) 3 600, none, none, kI (.invokestatic 183) 3 164 3 0 0, none, none, kK (.ifCond .eq 14) 3 24, none, none, kK (.iload_n 2) 1 2, kJ (.iconst 0) 1, kV (.sipush 300) 3 300, none, none, kI (.invokestatic 183) 3 164 3 0 0, none, none, kK (.ifCond .ne 6) 3 27, none, none, kV (.bipush (-102)) 2 (-102), none, kJ .ireturn 1, kJ (.aload_n 0) 1, kI (.invokevirtual 226) 3 176 1 12 0, none, none, kJ (.iconst 0) 1, kK (.istore_n 3) 1 3, kK (.iload_n 3) 1 3, kK (.iload_n 2) 1 2, kK (.if_icmp .gt 44) 3 79, none, none, kJ (.aload_n 0) 1, kK (.iload_n 1) 1 1, kI (.invokevirtual 235) 3 182 2 12 0, none, none, kK (.istore 4) 2 4, none, kK (.iload 4) 2 4, none, kV (.iconst (-1)) 1 (-1), kK (.if_icmp .eq 12) 3 60, none, none, kV (.sipush 1000) 3 1000, none, none, kK (.iload_n 3) 1 3, kJ .imul 1, kK (.iload 4) 2 4, none, kJ .iadd 1, kJ .ireturn 1, kJ (.aload_n 0) 1, kJ (.aload_n 0) 1, kJ (.aload_n 0) 1, kI (.getfield 210) 3 12 60 0 0, none, none, kI (.invokevirtual 200) 3 174 2 12 0, none, none, kI (.invokevirtual 229) 3 178 2 12 0, none, none, kJ .pop 1, kI (.iinc 3 1) 3 3 0 0 1, none, none, kK (.goto (-43)) 3 33, none, none, kV (.iconst (-1)) 1 (-1), kJ .ireturn 1]
def mK184 : List (Option mI) := [kK (.iload_n 1) 1 1, kJ (.iconst 0) 1, kJ (.aload_n 0) 1, kI (.getfield 204) 3 12 12 0 0, none, none, kV (.iconst 1) 1 1, kJ .isub 1, kI (.invokestatic 183) 3 164 3 0 0, none, none, kJ .ireturn 1]
def mK185_0 : List (Option mI) := [kK (.iload_n 2) 1 2, kI (.invokestatic 193) 3 165 1 0 0, none, none, kK (.ifCond .ne 6) 3 10, none, none, kV (.bipush (-101)) 2 (-101), none, kJ .ireturn 1, kK (.iload_n 1) 1 1, kJ (.iconst 0) 1, kV (.iconst 5) 1 5, kI (.invokestatic 183) 3 164 3 0 0, none, none, kK (.ifCond .ne 6) 3 22, none, none, kV (.bipush (-102)) 2 (-102), none, kJ .ireturn 1, kJ (.aload_n 0) 1, kI (.getfield 204) 3 12 12 0 0, none, none, kV (.bipush 20) 2 20, none, kK (.if_icmp .ne 6) 3 34, none, none, kV (.bipush (-104)) 2 (-104), none, kJ .ireturn 1, kJ (.aload_n 0) 1, kI (.getfield 40) 3 12 13 0 0, none, none, kJ (.aload_n 0) 1, kI (.getfield 204) 3 12 12 0 0, none, none, kK (.iload_n 1) 1 1, kJ .iastore 1, kJ (.aload_n 0) 1, kI (.getfield 43) 3 12 14 0 0, none, none, kJ (.aload_n 0) 1, kI (.getfield 204) 3 12 12 0 0, none, none, kK (.iload_n 2) 1 2, kJ .iastore 1, kJ (.aload_n 0) 1, kI (.getfield 46) 3 12 15 0 0, none, none, kJ (.aload_n 0) 1, kI (.getfield 204) 3 12 12 0 0, none, none, kJ (.iconst 0) 1, kJ .iastore 1, kJ (.aload_n 0) 1, kI (.getfield 49) 3 12 16 0 0, none, none, kJ (.aload_n 0) 1, kI (.getfield 204) 3 12 12 0 0, none, none, kJ (.aload_n 0) 1, kI (.getfield 187) 3 12 7 0 0, none, none, kJ .iastore 1, kJ (.iconst 0) 1, kK (.istore_n 3) 1 3, kK (.iload_n 3) 1 3, kV (.iconst 3) 1 3, kK (.if_icmp .ge 23) 3 104, none, none, kJ (.aload_n 0) 1, kI (.getfield 52) 3 12 17 0 0, none, none, kV (.iconst 3) 1 3, kJ (.aload_n 0) 1, kI (.getfield 204) 3 12 12 0 0, none, none, kJ .imul 1, kK (.iload_n 3) 1 3, kJ .iadd 1, kV (.iconst (-1)) 1 (-1), kJ .iastore 1, kI (.iinc 3 1) 3 3 0 0 1, none, none, kK (.goto (-22)) 3 79, none, none, kJ (.aload_n 0) 1, kJ .dup 1, kI (.getfield 204) 3 12 12 0 0, none, none, kV (.iconst 1) 1 1, kJ .iadd 1, kI (.putfield 204) 3 12 12 0 0, none, none, kJ (.aload_n 0) 1, kI (.getfield 204) 3 12 12 0 0, none, none, kV (.iconst 1) 1 1, kJ .isub 1]
def mK185_1 : List (Option mI) := [kJ .ireturn 1]
def mK185 : List (Option mI) := mK185_0 ++ (mK185_1)
def mK186 : List (Option mI) := [kJ (.aload_n 0) 1, kK (.iload_n 1) 1 1, kI (.invokevirtual 238) 3 184 2 12 0, none, none, kK (.ifCond .eq 10) 3 15, none, none, kK (.iload_n 2) 1 2, kI (.invokestatic 193) 3 165 1 0 0, none, none, kK (.ifCond .ne 6) 3 18, none, none, kV (.bipush (-101)) 2 (-101), none, kJ .ireturn 1, kJ (.aload_n 0) 1, kI (.getfield 43) 3 12 14 0 0, none, none, kK (.iload_n 1) 1 1, kJ .iaload 1, kK (.istore_n 3) 1 3, kJ (.aload_n 0) 1, kI (.getfield 43) 3 12 14 0 0, none, none, kK (.iload_n 1) 1 1, kK (.iload_n 2) 1 2, kJ .iastore 1, kK (.iload_n 3) 1 3, kJ .ireturn 1]
def mK187 : List (Option mI) := [kJ (.aload_n 0) 1, kI (.getfield 40) 3 12 13 0 0, none, none, kK (.iload_n 1) 1 1, kJ .iaload 1, kK (.istore_n 2) 1 2, kK (.iload_n 2) 1 2, kK (.ifCond .ne 8) 3 16, none, none, kV (.bipush 10) 2 10, none, kK (.goto 45) 3 58, none, none, kK (.iload_n 2) 1 2, kV (.iconst 1) 1 1, kK (.if_icmp .ne 8) 3 26, none, none, kV (.bipush 30) 2 30, none, kK (.goto 35) 3 58, none, none, kK (.iload_n 2) 1 2, kV (.iconst 2) 1 2, kK (.if_icmp .ne 8) 3 36, none, none, kV (.bipush 35) 2 35, none, kK (.goto 25) 3 58, none, none, kK (.iload_n 2) 1 2, kV (.iconst 3) 1 3, kK (.if_icmp .ne 8) 3 46, none, none, kV (.bipush 60) 2 60, none, kK (.goto 15) 3 58, none, none, kK (.iload_n 2) 1 2, kV (.iconst 4) 1 4, kK (.if_icmp .ne 8) 3 56, none, none, kV (.bipush 10) 2 10, none, kK (.goto 5) 3 58, none, none, kV (.bipush 30) 2 30, none, kK (.istore_n 3) 1 3, kK (.iload_n 3) 1 3, kV (.bipush 100) 2 100, none, kV (.bipush 25) 2 25, none, kJ (.aload_n 0) 1, kI (.getfield 46) 3 12 15 0 0, none, none, kK (.iload_n 1) 1 1, kJ .iaload 1, kI (.invokestatic 232) 3 180 1 0 0, none, none, kJ .imul 1, kJ .isub 1, kJ .imul 1, kJ .ireturn 1]
def mK188 : List (Option mI) := [kK (.iload_n 2) 1 2, kS (.tableswitch 88 0 5 #[39, 46, 53, 60, 70, 82]) 39 89 [(0, 40), (1, 47), (2, 54), (3, 61), (4, 71), (5, 83)], none, none, none, none, none, none, none, none, none, none, none, none, none, none, none, none, none, none, none, none, none, none, none, none, none, none, none, none, none, none, none, none, none, none, none, none, none, none, kJ (.aload_n 0) 1, kI (.getfield 40) 3 12 13 0 0, none, none, kK (.iload_n 1) 1 1, kJ .iaload 1, kJ .ireturn 1, kJ (.aload_n 0) 1, kI (.getfield 43) 3 12 14 0 0, none, none, kK (.iload_n 1) 1 1, kJ .iaload 1, kJ .ireturn 1, kJ (.aload_n 0) 1, kI (.getfield 46) 3 12 15 0 0, none, none, kK (.iload_n 1) 1 1, kJ .iaload 1, kJ .ireturn 1, kJ (.aload_n 0) 1, kI (.getfield 46) 3 12 15 0 0, none, none, kK (.iload_n 1) 1 1, kJ .iaload 1, kI (.invokestatic 232) 3 180 1 0 0, none, none, kJ .ireturn 1, kJ (.aload_n 0) 1, kI (.getfield 187) 3 12 7 0 0, none, none, kJ (.aload_n 0) 1, kI (.getfield 49) 3 12 16 0 0, none, none, kK (.iload_n 1) 1 1, kJ .iaload 1, kJ .isub 1, kJ .ireturn 1, kJ (.aload_n 0) 1, kK (.iload_n 1) 1 1, kI (.invokevirtual 241) 3 187 2 12 0, none, none, kJ .ireturn 1, kJ (.aload_n 0) 1, kI (.getfield 52) 3 12 17 0 0, none, none, kV (.iconst 3) 1 3, kK (.iload_n 1) 1 1, kJ .imul 1, kK (.iload_n 2) 1 2, kJ .iadd 1, kV (.bipush 6) 2 6, none, kJ .isub 1, kJ .iaload 1, kJ .ireturn 1]
def mK189 : List (Option mI) := [kJ (.aload_n 0) 1, kK (.iload_n 1) 1 1, kI (.invokevirtual 238) 3 184 2 12 0, none, none, kK (.ifCond .ne 8) 3 13, none, none, kV (.bipush (-101)) 2 (-101), none, kK (.goto 24) 3 34, none, none, kK (.iload_n 2) 1 2, kJ (.iconst 0) 1, kV (.bipush 8) 2 8, none, kI (.invokestatic 183) 3 164 3 0 0, none, none, kK (.ifCond .eq 12) 3 32, none, none, kJ (.aload_n 0) 1, kK (.iload_n 1) 1 1, kK (.iload_n 2) 1 2, kI (.invokevirtual 244) 3 188 3 12 0, none, none, kK (.goto 5) 3 34, none, none, kV (.bipush (-102)) 2 (-102), none, kJ .ireturn 1]
def mK190 : List (Option mI) := [kJ (.aload_n 0) 1, kK (.iload_n 1) 1 1, kI (.invokevirtual 238) 3 184 2 12 0, none, none, kK (.ifCond .ne 6) 3 11, none, none, kV (.bipush (-101)) 2 (-101), none, kJ .ireturn 1, kK (.iload_n 2) 1 2, kJ (.iconst 0) 1, kV (.iconst 5) 1 5, kI (.invokestatic 183) 3 164 3 0 0, none, none, kK (.ifCond .ne 6) 3 23, none, none, kV (.bipush (-102)) 2 (-102), none, kJ .ireturn 1, kK (.iload_n 2) 1 2, kK (.ifCond .eq 32) 3 56, none, none, kJ (.aload_n 0) 1, kI (.getfield 40) 3 12 13 0 0, none, none, kK (.iload_n 1) 1 1, kJ .iaload 1, kK (.iload_n 2) 1 2, kK (.if_icmp .eq 22) 3 56, none, none, kK (.iload_n 2) 1 2, kV (.iconst 1) 1 1, kK (.if_icmp .ne 21) 3 60, none, none, kJ (.aload_n 0) 1, kI (.getfield 40) 3 12 13 0 0, none, none, kK (.iload_n 1) 1 1, kJ .iaload 1, kV (.iconst 1) 1 1, kV (.iconst 3) 1 3, kI (.invokestatic 183) 3 164 3 0 0, none, none, kK (.ifCond .eq 7) 3 60, none, none, kV (.iconst 1) 1 1, kK (.goto 4) 3 61, none, none, kJ (.iconst 0) 1, kK (.istore_n 3) 1 3, kK (.iload_n 3) 1 3, kK (.ifCond .eq 7) 3 70, none, none, kK (.iload_n 1) 1 1, kK (.goto 4) 3 71, none, none, kV (.iconst (-1)) 1 (-1), kJ .ireturn 1]
def mK191_0 : List (Option mI) := [kJ (.iconst 0) 1, kK (.istore_n 3) 1 3, kJ (.iconst 0) 1, kK (.istore 4) 2 4, none, kJ (.iconst 0) 1, kK (.istore 5) 2 5, none, kK (.iload 5) 2 5, none, kV (.bipush 8) 2 8, none, kK (.if_icmp .ge 73) 3 85, none, none, kK (.lload_n 1) 1 1, kV (.bipush 8) 2 8, none, kK (.iload 5) 2 5, none, kJ .imul 1, kJ .lshr 1, kW (.ldc2_w 247) 3 255, none, none, kJ .land 1, kJ .l2i 1, kK (.istore 6) 2 6, none, kK (.iload 6) 2 6, none, kV (.bipush 126) 2 126, none, kK (.if_icmp .gt 13) 3 46, none, none, kK (.iload 4) 2 4, none, kK (.ifCond .eq 11) 3 49, none, none, kK (.iload 6) 2 6, none, kK (.ifCond .eq 6) 3 49, none, none, kV (.bipush (-102)) 2 (-102), none, kJ .ireturn 1, kK (.iload 4) 2 4, none, kK (.ifCond .ne 8) 3 59, none, none, kK (.iload 6) 2 6, none, kK (.ifCond .ne 7) 3 63, none, none, kV (.iconst 1) 1 1, kK (.goto 4) 3 64, none, none, kJ (.iconst 0) 1, kK (.istore 4) 2 4, none, kK (.iload_n 3) 1 3, kK (.iload 6) 2 6, none, kK (.ifCond .ne 7) 3 76, none, none, kJ (.iconst 0) 1, kK (.goto 4) 3 77, none, none, kV (.iconst 1) 1 1, kJ .iadd 1, kK (.istore_n 3) 1 3, kI (.iinc 5 1) 3 5 0 0 1, none, none, kK (.goto (-74)) 3 8, none, none, kJ (.aload_n 0) 1, kI (.getfield 249) 3 12 18 0 0, none, none, kK (.iload_n 3) 1 3, kJ .iadd 1, kV (.bipush 60) 2 60, none, kK (.if_icmp .le 6) 3 99, none, none, kV (.bipush (-104)) 2 (-104), none, kJ .ireturn 1, kJ (.iconst 0) 1, kK (.istore 5) 2 5, none, kK (.iload 5) 2 5, none, kK (.iload_n 3) 1 3, kK (.if_icmp .ge 30) 3 135, none, none, kJ (.aload_n 0) 1, kI (.getfield 55) 3 12 19 0 0, none, none, kJ (.aload_n 0) 1, kI (.getfield 249) 3 12 18 0 0, none, none, kK (.iload 5) 2 5, none, kJ .iadd 1, kK (.lload_n 1) 1 1]
def mK191_1 : List (Option mI) := [kV (.bipush 8) 2 8, none, kK (.iload 5) 2 5, none, kJ .imul 1, kJ .lshr 1, kJ .l2i 1, kJ .i2b 1, kJ .bastore 1, kI (.iinc 5 1) 3 5 0 0 1, none, none, kK (.goto (-30)) 3 102, none, none, kJ (.aload_n 0) 1, kJ .dup 1, kI (.getfield 249) 3 12 18 0 0, none, none, kK (.iload_n 3) 1 3, kJ .iadd 1, kI (.putfield 249) 3 12 18 0 0, none, none, kJ (.aload_n 0) 1, kI (.getfield 249) 3 12 18 0 0, none, none, kJ .ireturn 1]
def mK191 : List (Option mI) := mK191_0 ++ (mK191_1)
def mK192 : List (Option mI) := [kJ (.aload_n 0) 1, kI (.getfield 249) 3 12 18 0 0, none, none, kK (.istore_n 1) 1 1, kJ (.aload_n 0) 1, kJ (.iconst 0) 1, kI (.putfield 249) 3 12 18 0 0, none, none, kK (.iload_n 1) 1 1, kJ .ireturn 1]
def mK193 : List (Option mI) := [kJ (.iload_n 0) 1, kV (.bipush 60) 2 60, none, kK (.if_icmp .eq 15) 3 18, none, none, kJ (.iload_n 0) 1, kV (.bipush 61) 2 61, none, kK (.if_icmp .eq 9) 3 18, none, none, kJ (.iload_n 0) 1, kV (.bipush 62) 2 62, none, kK (.if_icmp .ne 7) 3 22, none, none, kV (.iconst 1) 1 1, kK (.goto 4) 3 23, none, none, kJ (.iconst 0) 1, kJ .ireturn 1]
def mK194_0 : List (Option mI) := [kJ (.iconst 0) 1, kK (.istore_n 1) 1 1, kJ (.iconst 0) 1, kK (.istore_n 2) 1 2, kJ (.iconst 0) 1, kK (.istore_n 3) 1 3, kJ (.iconst 0) 1, kK (.istore 4) 2 4, none, kJ (.iconst 0) 1, kK (.istore 5) 2 5, none, kV (.iconst 1) 1 1, kK (.istore 6) 2 6, none, kK (.iload 5) 2 5, none, kJ (.aload_n 0) 1, kI (.getfield 249) 3 12 18 0 0, none, none, kK (.if_icmp .ge 278) 3 299, none, none, kK (.iload 6) 2 6, none, kK (.ifCond .eq 273) 3 299, none, none, kJ (.aload_n 0) 1, kI (.getfield 55) 3 12 19 0 0, none, none, kK (.iload 5) 2 5, none, kJ .baload 1, kK (.istore 7) 2 7, none, kK (.iload 7) 2 7, none, kV (.bipush 48) 2 48, none, kV (.bipush 57) 2 57, none, kI (.invokestatic 183) 3 164 3 0 0, none, none, kK (.istore 8) 2 8, none, kV (.iconst 1) 1 1, kK (.istore 6) 2 6, none, kK (.iload_n 1) 1 1, kK (.ifCond .ne 29) 3 82, none, none, kK (.iload 7) 2 7, none, kV (.bipush 87) 2 87, none, kK (.if_icmp .eq 17) 3 77, none, none, kK (.iload 7) 2 7, none, kV (.bipush 83) 2 83, none, kK (.if_icmp .eq 10) 3 77, none, none, kK (.iload 7) 2 7, none, kV (.bipush 67) 2 67, none, kK (.if_icmp .ne 8) 3 82, none, none, kV (.iconst 1) 1 1, kK (.istore_n 1) 1 1, kK (.goto 202) 3 281, none, none, kK (.iload_n 1) 1 1, kV (.iconst 1) 1 1, kK (.if_icmp .ne 15) 3 99, none, none, kK (.iload 7) 2 7, none, kV (.bipush 58) 2 58, none, kK (.if_icmp .ne 8) 3 99, none, none, kV (.iconst 2) 1 2, kK (.istore_n 1) 1 1, kK (.goto 185) 3 281, none, none, kK (.iload_n 1) 1 1, kV (.iconst 2) 1 2, kK (.if_icmp .ne 16) 3 117, none, none, kK (.iload 7) 2 7, none, kV (.bipush 40) 2 40, none, kK (.if_icmp .ne 9) 3 117, none, none, kI (.iinc 2 1) 3 2 0 0 1, none, none, kK (.goto 167) 3 281, none, none, kK (.iload_n 1) 1 1, kV (.iconst 2) 1 2, kK (.if_icmp .ne 36) 3 155]
def mK194_1 : List (Option mI) := [none, none, kK (.iload 7) 2 7, none, kV (.bipush 114) 2 114, none, kK (.if_icmp .eq 24) 3 150, none, none, kK (.iload 7) 2 7, none, kV (.bipush 116) 2 116, none, kK (.if_icmp .eq 17) 3 150, none, none, kK (.iload 7) 2 7, none, kV (.bipush 104) 2 104, none, kK (.if_icmp .eq 10) 3 150, none, none, kK (.iload 7) 2 7, none, kV (.bipush 107) 2 107, none, kK (.if_icmp .ne 8) 3 155, none, none, kV (.iconst 3) 1 3, kK (.istore_n 1) 1 1, kK (.goto 129) 3 281, none, none, kK (.iload_n 1) 1 1, kV (.iconst 2) 1 2, kK (.if_icmp .ne 15) 3 172, none, none, kK (.iload 8) 2 8, none, kK (.ifCond .eq 10) 3 172, none, none, kV (.iconst 4) 1 4, kK (.istore_n 1) 1 1, kV (.iconst 1) 1 1, kK (.istore_n 3) 1 3, kK (.goto 112) 3 281, none, none, kK (.iload_n 1) 1 1, kV (.iconst 4) 1 4, kK (.if_icmp .ne 19) 3 193, none, none, kK (.iload 8) 2 8, none, kK (.ifCond .eq 14) 3 193, none, none, kK (.iload_n 3) 1 3, kV (.iconst 3) 1 3, kK (.if_icmp .ge 9) 3 193, none, none, kI (.iinc 3 1) 3 3 0 0 1, none, none, kK (.goto 91) 3 281, none, none, kK (.iload_n 1) 1 1, kV (.iconst 2) 1 2, kK (.if_icmp .le 29) 3 224, none, none, kK (.iload 7) 2 7, none, kV (.bipush 43) 2 43, none, kK (.if_icmp .eq 17) 3 219, none, none, kK (.iload 7) 2 7, none, kV (.bipush 45) 2 45, none, kK (.if_icmp .eq 10) 3 219, none, none, kK (.iload 7) 2 7, none, kV (.bipush 42) 2 42, none, kK (.if_icmp .ne 8) 3 224, none, none, kV (.iconst 2) 1 2, kK (.istore_n 1) 1 1, kK (.goto 60) 3 281, none, none, kK (.iload_n 1) 1 1, kV (.iconst 2) 1 2, kK (.if_icmp .le 22) 3 248, none, none, kK (.iload 7) 2 7, none, kV (.bipush 41) 2 41, none, kK (.if_icmp .ne 15) 3 248, none, none, kK (.iload_n 2) 1 2, kK (.ifCond .le 11) 3 248, none, none]
def mK194_2 : List (Option mI) := [kI (.iinc 2 (-1)) 3 2 0 0 (-1), none, none, kV (.iconst 3) 1 3, kK (.istore_n 1) 1 1, kK (.goto 36) 3 281, none, none, kK (.iload_n 1) 1 1, kV (.iconst 2) 1 2, kK (.if_icmp .le 28) 3 278, none, none, kK (.iload 7) 2 7, none, kI (.invokestatic 252) 3 193 1 0 0, none, none, kK (.ifCond .eq 20) 3 278, none, none, kK (.iload_n 2) 1 2, kK (.ifCond .ne 16) 3 278, none, none, kK (.iload 4) 2 4, none, kK (.ifCond .ne 11) 3 278, none, none, kV (.iconst 1) 1 1, kK (.istore 4) 2 4, none, kV (.iconst 2) 1 2, kK (.istore_n 1) 1 1, kK (.goto 6) 3 281, none, none, kJ (.iconst 0) 1, kK (.istore 6) 2 6, none, kK (.iload 5) 2 5, none, kK (.iload 6) 2 6, none, kK (.ifCond .eq 7) 3 292, none, none, kV (.iconst 1) 1 1, kK (.goto 4) 3 293, none, none, kJ (.iconst 0) 1, kJ .iadd 1, kK (.istore 5) 2 5, none, kK (.goto (-281)) 3 15, none, none, kJ (.aload_n 0) 1, kK (.iload 5) 2 5, none, kI (.putfield 255) 3 12 62 0 0, none, none, kJ (.aload_n 0) 1, kK (.iload 5) 2 5, none, kJ (.aload_n 0) 1, kI (.getfield 249) 3 12 18 0 0, none, none, kK (.if_icmp .ne 21) 3 333, none, none, kK (.iload_n 1) 1 1, kV (.iconst 2) 1 2, kK (.if_icmp .le 16) 3 333, none, none, kK (.iload_n 2) 1 2, kK (.ifCond .ne 12) 3 333, none, none, kK (.iload 4) 2 4, none, kK (.ifCond .eq 7) 3 333, none, none, kV (.iconst 1) 1 1, kK (.goto 4) 3 334, none, none, kJ (.iconst 0) 1, kI (.putfield 258) 3 12 63 1 0, none, none, kJ .return_ 1]
def mK194 : List (Option mI) := mK194_0 ++ (mK194_1 ++ (mK194_2))
def mK195 : List (Option mI) := [kJ (.aload_n 0) 1, kI (.invokevirtual 262) 3 194 1 12 0, none, none, kJ (.aload_n 0) 1, kI (.getfield 255) 3 12 62 0 0, none, none, kJ .ireturn 1]
def mK196 : List (Option mI) := [kJ (.aload_n 0) 1, kI (.invokevirtual 262) 3 194 1 12 0, none, none, kJ (.aload_n 0) 1, kI (.getfield 258) 3 12 63 0 0, none, none, kK (.ifCond .ne 6) 3 14, none, none, kV (.bipush (-103)) 2 (-103), none, kJ .ireturn 1, kJ (.aload_n 0) 1, kI (.getfield 265) 3 12 20 0 0, none, none, kV (.bipush 12) 2 12, none, kK (.if_icmp .ne 6) 3 26, none, none, kV (.bipush (-104)) 2 (-104), none, kJ .ireturn 1, kJ (.iconst 0) 1, kK (.istore_n 1) 1 1, kK (.iload_n 1) 1 1, kJ (.aload_n 0) 1, kI (.getfield 249) 3 12 18 0 0, none, none, kK (.if_icmp .ge 29) 3 62, none, none, kJ (.aload_n 0) 1, kI (.getfield 59) 3 12 21 0 0, none, none, kV (.bipush 60) 2 60, none, kJ (.aload_n 0) 1, kI (.getfield 265) 3 12 20 0 0, none, none, kJ .imul 1, kK (.iload_n 1) 1 1, kJ .iadd 1, kJ (.aload_n 0) 1, kI (.getfield 55) 3 12 19 0 0, none, none, kK (.iload_n 1) 1 1, kJ .baload 1, kJ .bastore 1, kI (.iinc 1 1) 3 1 0 0 1, none, none, kK (.goto (-31)) 3 28, none, none, kJ (.aload_n 0) 1, kI (.getfield 62) 3 12 22 0 0, none, none, kJ (.aload_n 0) 1, kI (.getfield 265) 3 12 20 0 0, none, none, kJ (.aload_n 0) 1, kI (.getfield 249) 3 12 18 0 0, none, none, kJ .iastore 1, kJ (.aload_n 0) 1, kJ .dup 1, kI (.getfield 265) 3 12 20 0 0, none, none, kV (.iconst 1) 1 1, kJ .iadd 1, kI (.putfield 265) 3 12 20 0 0, none, none, kJ (.aload_n 0) 1, kJ (.iconst 0) 1, kI (.putfield 249) 3 12 18 0 0, none, none, kJ (.aload_n 0) 1, kI (.getfield 265) 3 12 20 0 0, none, none, kV (.iconst 1) 1 1, kJ .isub 1, kJ .ireturn 1]
def mK197 : List (Option mI) := [kJ (.aload_n 0) 1, kJ .dup 1, kI (.getfield 268) 3 12 66 0 0, none, none, kV (.iconst 1) 1 1, kJ .iadd 1, kI (.putfield 268) 3 12 66 0 0, none, none, kJ (.aload_n 0) 1, kI (.getfield 152) 3 12 64 0 0, none, none, kJ (.aload_n 0) 1, kI (.getfield 268) 3 12 66 0 0, none, none, kJ (.lconst 0) 1, kJ .lastore 1, kJ (.aload_n 0) 1, kI (.getfield 156) 3 12 65 0 0, none, none, kJ (.aload_n 0) 1, kI (.getfield 268) 3 12 66 0 0, none, none, kW (.lconst 1) 1 1, kJ .lastore 1, kJ .return_ 1]
def mK198 : List (Option mI) := [kJ (.aload_n 0) 1, kJ .dup 1, kI (.getfield 268) 3 12 66 0 0, none, none, kV (.iconst 1) 1 1, kJ .isub 1, kI (.putfield 268) 3 12 66 0 0, none, none, kJ (.aload_n 0) 1, kI (.getfield 152) 3 12 64 0 0, none, none, kJ (.aload_n 0) 1, kI (.getfield 268) 3 12 66 0 0, none, none, kV (.iconst 1) 1 1, kJ .iadd 1, kJ .laload 1, kJ (.aload_n 0) 1, kI (.getfield 156) 3 12 65 0 0, none, none, kJ (.aload_n 0) 1, kI (.getfield 268) 3 12 66 0 0, none, none, kV (.iconst 1) 1 1, kJ .iadd 1, kJ .laload 1, kJ .ladd 1, kJ .lreturn 1]
def mK199_0 : List (Option mI) := [kJ (.aload_n 0) 1, kV (.iconst (-1)) 1 (-1), kI (.putfield 268) 3 12 66 0 0, none, none, kJ (.aload_n 0) 1, kI (.invokevirtual 271) 3 197 1 12 0, none, none, kK (.iload_n 3) 1 3, kK (.istore 4) 2 4, none, kK (.iload 4) 2 4, none, kJ (.aload_n 0) 1, kI (.getfield 62) 3 12 22 0 0, none, none, kK (.iload_n 1) 1 1, kJ .iaload 1, kK (.if_icmp .ge 335) 3 355, none, none, kJ (.aload_n 0) 1, kI (.getfield 59) 3 12 21 0 0, none, none, kV (.bipush 60) 2 60, none, kK (.iload_n 1) 1 1, kJ .imul 1, kK (.iload 4) 2 4, none, kJ .iadd 1, kJ .baload 1, kI (.invokestatic 252) 3 193 1 0 0, none, none, kK (.ifCond .ne 317) 3 355, none, none, kJ (.aload_n 0) 1, kI (.getfield 59) 3 12 21 0 0, none, none, kV (.bipush 60) 2 60, none, kK (.iload_n 1) 1 1, kJ .imul 1, kK (.iload 4) 2 4, none, kJ .iadd 1, kJ .baload 1, kK (.istore 5) 2 5, none, kI (.iinc 4 1) 3 4 0 0 1, none, none, kK (.iload 5) 2 5, none, kV (.bipush 40) 2 40, none, kK (.if_icmp .ne 10) 3 72, none, none, kJ (.aload_n 0) 1, kI (.invokevirtual 271) 3 197 1 12 0, none, none, kK (.goto 283) 3 352, none, none, kK (.iload 5) 2 5, none, kV (.bipush 41) 2 41, none, kK (.if_icmp .ne 26) 3 102, none, none, kJ (.aload_n 0) 1, kI (.invokevirtual 274) 3 198 1 12 0, none, none, kK (.lstore 6) 2 6, none, kJ (.aload_n 0) 1, kI (.getfield 156) 3 12 65 0 0, none, none, kJ (.aload_n 0) 1, kI (.getfield 268) 3 12 66 0 0, none, none, kJ .dup2 1, kJ .laload 1, kK (.lload 6) 2 6, none, kJ .lmul 1, kJ .lastore 1, kK (.goto 253) 3 352, none, none, kK (.iload 5) 2 5, none, kV (.bipush 43) 2 43, none, kK (.if_icmp .eq 10) 3 116, none, none, kK (.iload 5) 2 5, none, kV (.bipush 45) 2 45, none, kK (.if_icmp .ne 50) 3 163, none, none, kJ (.aload_n 0) 1, kI (.getfield 152) 3 12 64 0 0, none, none]
def mK199_1 : List (Option mI) := [kJ (.aload_n 0) 1, kI (.getfield 268) 3 12 66 0 0, none, none, kJ .dup2 1, kJ .laload 1, kJ (.aload_n 0) 1, kI (.getfield 156) 3 12 65 0 0, none, none, kJ (.aload_n 0) 1, kI (.getfield 268) 3 12 66 0 0, none, none, kJ .laload 1, kJ .ladd 1, kJ .lastore 1, kJ (.aload_n 0) 1, kI (.getfield 156) 3 12 65 0 0, none, none, kJ (.aload_n 0) 1, kI (.getfield 268) 3 12 66 0 0, none, none, kK (.iload 5) 2 5, none, kV (.bipush 43) 2 43, none, kK (.if_icmp .ne 7) 3 156, none, none, kW (.lconst 1) 1 1, kK (.goto 6) 3 159, none, none, kW (.ldc2_w 278) 3 (-1), none, none, kJ .lastore 1, kK (.goto 192) 3 352, none, none, kK (.iload 5) 2 5, none, kV (.bipush 48) 2 48, none, kV (.bipush 57) 2 57, none, kI (.invokestatic 183) 3 164 3 0 0, none, none, kK (.ifCond .eq 93) 3 265, none, none, kK (.iload 5) 2 5, none, kV (.bipush 48) 2 48, none, kJ .isub 1, kJ .i2l 1, kK (.lstore 6) 2 6, none, kK (.iload 4) 2 4, none, kJ (.aload_n 0) 1, kI (.getfield 62) 3 12 22 0 0, none, none, kK (.iload_n 1) 1 1, kJ .iaload 1, kK (.if_icmp .ge 57) 3 248, none, none, kJ (.aload_n 0) 1, kI (.getfield 59) 3 12 21 0 0, none, none, kV (.bipush 60) 2 60, none, kK (.iload_n 1) 1 1, kJ .imul 1, kK (.iload 4) 2 4, none, kJ .iadd 1, kJ .baload 1, kV (.bipush 48) 2 48, none, kV (.bipush 57) 2 57, none, kI (.invokestatic 183) 3 164 3 0 0, none, none, kK (.ifCond .eq 35) 3 248, none, none, kW (.ldc2_w 280) 3 10, none, none, kK (.lload 6) 2 6, none, kJ .lmul 1, kJ (.aload_n 0) 1, kI (.getfield 59) 3 12 21 0 0, none, none, kV (.bipush 60) 2 60, none, kK (.iload_n 1) 1 1, kJ .imul 1, kK (.iload 4) 2 4, none, kJ .iadd 1, kJ .baload 1, kJ .i2l 1, kJ .ladd 1, kW (.ldc2_w 282) 3 48, none, none, kJ .lsub 1]
def mK199_2 : List (Option mI) := [kK (.lstore 6) 2 6, none, kI (.iinc 4 1) 3 4 0 0 1, none, none, kK (.goto (-62)) 3 183, none, none, kJ (.aload_n 0) 1, kI (.getfield 156) 3 12 65 0 0, none, none, kJ (.aload_n 0) 1, kI (.getfield 268) 3 12 66 0 0, none, none, kJ .dup2 1, kJ .laload 1, kK (.lload 6) 2 6, none, kJ .lmul 1, kJ .lastore 1, kK (.goto 90) 3 352, none, none, kK (.iload 5) 2 5, none, kV (.bipush 42) 2 42, none, kK (.if_icmp .eq 83) 3 352, none, none, kJ (.aload_n 0) 1, kI (.getfield 156) 3 12 65 0 0, none, none, kJ (.aload_n 0) 1, kI (.getfield 268) 3 12 66 0 0, none, none, kJ .dup2 1, kJ .laload 1, kK (.iload 5) 2 5, none, kV (.bipush 114) 2 114, none, kK (.if_icmp .ne 13) 3 299, none, none, kJ (.aload_n 0) 1, kI (.getfield 46) 3 12 15 0 0, none, none, kK (.iload_n 2) 1 2, kJ .iaload 1, kJ .i2l 1, kK (.goto 54) 3 350, none, none, kK (.iload 5) 2 5, none, kV (.bipush 116) 2 116, none, kK (.if_icmp .ne 18) 3 321, none, none, kJ (.aload_n 0) 1, kK (.getfield 7) 3 12, none, none, kJ (.aload_n 0) 1, kI (.getfield 43) 3 12 14 0 0, none, none, kK (.iload_n 2) 1 2, kJ .iaload 1, kJ .iaload 1, kJ .i2l 1, kK (.goto 32) 3 350, none, none, kK (.iload 5) 2 5, none, kV (.bipush 104) 2 104, none, kK (.if_icmp .ne 18) 3 343, none, none, kJ (.aload_n 0) 1, kI (.getfield 187) 3 12 7 0 0, none, none, kJ (.aload_n 0) 1, kI (.getfield 49) 3 12 16 0 0, none, none, kK (.iload_n 2) 1 2, kJ .iaload 1, kJ .isub 1, kJ .i2l 1, kK (.goto 10) 3 350, none, none, kJ (.aload_n 0) 1, kI (.getfield 40) 3 12 13 0 0, none, none, kK (.iload_n 2) 1 2, kJ .iaload 1, kJ .i2l 1, kJ .lmul 1, kJ .lastore 1, kK (.goto (-340)) 3 12, none, none, kJ (.aload_n 0) 1, kI (.invokevirtual 274) 3 198 1 12 0, none, none, kJ .lreturn 1]
def mK199 : List (Option mI) := mK199_0 ++ (mK199_1 ++ (mK199_2))
def mK200 : List (Option mI) := [kV (.iconst 2) 1 2, kK (.istore_n 2) 1 2, kJ (.aload_n 0) 1, kI (.getfield 59) 3 12 21 0 0, none, none, kV (.bipush 60) 2 60, none, kK (.iload_n 1) 1 1, kJ .imul 1, kK (.iload_n 2) 1 2, kJ .iadd 1, kJ .baload 1, kI (.invokestatic 252) 3 193 1 0 0, none, none, kK (.ifCond .ne 9) 3 25, none, none, kI (.iinc 2 1) 3 2 0 0 1, none, none, kK (.goto (-20)) 3 2, none, none, kK (.iload_n 2) 1 2, kJ .ireturn 1]
def mK201 : List (Option mI) := [kJ (.aload_n 0) 1, kK (.iload_n 1) 1 1, kK (.iload_n 2) 1 2, kK (.iload_n 3) 1 3, kK (.ifCond .ne 7) 3 11, none, none, kV (.iconst 2) 1 2, kK (.goto 10) 3 18, none, none, kJ (.aload_n 0) 1, kK (.iload_n 1) 1 1, kI (.invokevirtual 284) 3 200 2 12 0, none, none, kV (.iconst 1) 1 1, kJ .iadd 1, kI (.invokevirtual 287) 3 199 4 12 0, none, none, kJ .lreturn 1]
def mK202_0 : List (Option mI) := [kK (.iload_n 1) 1 1, kJ (.iconst 0) 1, kV (.iconst 2) 1 2, kI (.invokestatic 183) 3 164 3 0 0, none, none, kK (.ifCond .eq 11) 3 17, none, none, kJ (.aload_n 0) 1, kK (.iload_n 2) 1 2, kI (.invokevirtual 238) 3 184 2 12 0, none, none, kK (.ifCond .ne 6) 3 20, none, none, kV (.bipush (-101)) 2 (-101), none, kJ .ireturn 1, kK (.iload_n 1) 1 1, kK (.ifCond .ne 8) 3 29, none, none, kV (.bipush 87) 2 87, none, kK (.goto 15) 3 41, none, none, kK (.iload_n 1) 1 1, kV (.iconst 1) 1 1, kK (.if_icmp .ne 8) 3 39, none, none, kV (.bipush 83) 2 83, none, kK (.goto 5) 3 41, none, none, kV (.bipush 67) 2 67, none, kK (.istore_n 3) 1 3, kJ (.aload_n 0) 1, kI (.getfield 265) 3 12 20 0 0, none, none, kV (.iconst 1) 1 1, kJ .isub 1, kK (.istore 4) 2 4, none, kK (.iload 4) 2 4, none, kK (.ifCond .lt 112) 3 164, none, none, kJ (.aload_n 0) 1, kI (.getfield 59) 3 12 21 0 0, none, none, kV (.bipush 60) 2 60, none, kK (.iload 4) 2 4, none, kJ .imul 1, kJ .baload 1, kK (.iload_n 3) 1 3, kK (.if_icmp .ne 92) 3 158, none, none, kJ (.aload_n 0) 1, kK (.iload 4) 2 4, none, kK (.iload_n 2) 1 2, kJ (.iconst 0) 1, kI (.invokevirtual 291) 3 201 4 12 0, none, none, kK (.lstore 5) 2 5, none, kJ (.aload_n 0) 1, kK (.iload 4) 2 4, none, kK (.iload_n 2) 1 2, kV (.iconst 1) 1 1, kI (.invokevirtual 291) 3 201 4 12 0, none, none, kK (.lstore 7) 2 7, none, kJ (.aload_n 0) 1, kI (.getfield 59) 3 12 21 0 0, none, none, kV (.bipush 60) 2 60, none, kK (.iload 4) 2 4, none, kJ .imul 1, kJ (.aload_n 0) 1, kK (.iload 4) 2 4, none, kI (.invokevirtual 284) 3 200 2 12 0, none, none, kJ .iadd 1, kJ .baload 1, kK (.istore 9) 2 9, none, kK (.iload 9) 2 9, none, kV (.bipush 60) 2 60, none, kK (.if_icmp .ne 14) 3 126, none, none, kK (.lload 5) 2 5, none, kK (.lload 7) 2 7, none, kJ .lcmp 1]
def mK202_1 : List (Option mI) := [kK (.ifCond .ge 36) 3 156, none, none, kK (.goto 29) 3 152, none, none, kK (.iload 9) 2 9, none, kV (.bipush 61) 2 61, none, kK (.if_icmp .ne 14) 3 144, none, none, kK (.lload 5) 2 5, none, kK (.lload 7) 2 7, none, kJ .lcmp 1, kK (.ifCond .ne 18) 3 156, none, none, kK (.goto 11) 3 152, none, none, kK (.lload 5) 2 5, none, kK (.lload 7) 2 7, none, kJ .lcmp 1, kK (.ifCond .le 7) 3 156, none, none, kV (.iconst 1) 1 1, kK (.goto 4) 3 157, none, none, kJ (.iconst 0) 1, kJ .ireturn 1, kI (.iinc 4 (-1)) 3 4 0 0 (-1), none, none, kK (.goto (-111)) 3 50, none, none, kV (.iconst (-1)) 1 (-1), kJ .ireturn 1]
def mK202 : List (Option mI) := mK202_0 ++ (mK202_1)
def mK203 : List (Option mI) := [kK (.iload_n 1) 1 1, kJ (.iconst 0) 1, kJ (.aload_n 0) 1, kI (.getfield 265) 3 12 20 0 0, none, none, kV (.iconst 1) 1 1, kJ .isub 1, kI (.invokestatic 183) 3 164 3 0 0, none, none, kK (.ifCond .eq 30) 3 41, none, none, kJ (.aload_n 0) 1, kK (.iload_n 2) 1 2, kI (.invokevirtual 238) 3 184 2 12 0, none, none, kK (.ifCond .eq 22) 3 41, none, none, kK (.iload_n 3) 1 3, kJ (.iconst 0) 1, kV (.iconst 1) 1 1, kI (.invokestatic 183) 3 164 3 0 0, none, none, kK (.ifCond .eq 13) 3 41, none, none, kJ (.aload_n 0) 1, kK (.iload_n 1) 1 1, kK (.iload_n 2) 1 2, kK (.iload_n 3) 1 3, kI (.invokevirtual 291) 3 201 4 12 0, none, none, kK (.goto 4) 3 42, none, none, kJ (.lconst 0) 1, kJ .lreturn 1]
def mK204_0 : List (Option mI) := [kJ (.aload_n 0) 1, kI (.invokevirtual 226) 3 176 1 12 0, none, none, kJ (.aload_n 0) 1, kJ (.aload_n 0) 1, kI (.getfield 31) 3 12 8 0 0, none, none, kJ (.aload_n 0) 1, kI (.getfield 187) 3 12 7 0 0, none, none, kK (.iload_n 1) 1 1, kJ .iadd 1, kK (.if_icmp .ge 10) 3 25, none, none, kJ (.aload_n 0) 1, kI (.getfield 31) 3 12 8 0 0, none, none, kK (.goto 9) 3 31, none, none, kJ (.aload_n 0) 1, kI (.getfield 187) 3 12 7 0 0, none, none, kK (.iload_n 1) 1 1, kJ .iadd 1, kI (.putfield 213) 3 12 61 0 0, none, none, kK (.iload_n 2) 1 2, kK (.ifCond .ne 60) 3 95, none, none, kJ (.iconst 0) 1, kK (.istore_n 3) 1 3, kJ (.iconst 0) 1, kK (.istore 4) 2 4, none, kK (.iload 4) 2 4, none, kJ (.aload_n 0) 1, kI (.getfield 190) 3 12 9 0 0, none, none, kK (.if_icmp .ge 19) 3 68, none, none, kK (.iload_n 3) 1 3, kJ (.aload_n 0) 1, kI (.getfield 34) 3 12 10 0 0, none, none, kK (.iload 4) 2 4, none, kJ .iaload 1, kJ .iadd 1, kK (.istore_n 3) 1 3, kI (.iinc 4 1) 3 4 0 0 1, none, none, kK (.goto (-22)) 3 43, none, none, kJ (.aload_n 0) 1, kI (.getfield 210) 3 12 60 0 0, none, none, kK (.iload_n 3) 1 3, kK (.if_icmp .ge 19) 3 92, none, none, kJ (.aload_n 0) 1, kJ (.aload_n 0) 1, kJ (.aload_n 0) 1, kI (.getfield 210) 3 12 60 0 0, none, none, kI (.invokevirtual 200) 3 174 2 12 0, none, none, kI (.invokevirtual 229) 3 178 2 12 0, none, none, kJ .pop 1, kK (.goto (-21)) 3 68, none, none, kK (.goto 58) 3 150, none, none, kJ (.iconst 0) 1, kK (.istore_n 3) 1 3, kK (.iload_n 3) 1 3, kK (.iload_n 1) 1 1, kK (.if_icmp .ge 22) 3 121, none, none, kJ (.aload_n 0) 1, kJ (.aload_n 0) 1, kJ (.aload_n 0) 1, kI (.getfield 210) 3 12 60 0 0, none, none, kI (.invokevirtual 200) 3 174 2 12 0, none, none, kI (.invokevirtual 229) 3 178 2 12 0, none, none, kJ .pop 1, kI (.iinc 3 1) 3 3 0 0 1, none, none, kK (.goto (-21)) 3 97, none]
def mK204_1 : List (Option mI) := [none, kJ (.aload_n 0) 1, kI (.getfield 187) 3 12 7 0 0, none, none, kK (.iload_n 1) 1 1, kJ .iadd 1, kV (.iconst 1) 1 1, kJ .isub 1, kK (.istore_n 3) 1 3, kK (.iload_n 3) 1 3, kK (.ifCond .lt 19) 3 150, none, none, kJ (.aload_n 0) 1, kJ (.aload_n 0) 1, kK (.iload_n 3) 1 3, kI (.invokevirtual 200) 3 174 2 12 0, none, none, kI (.invokevirtual 229) 3 178 2 12 0, none, none, kJ .pop 1, kI (.iinc 3 (-1)) 3 3 0 0 (-1), none, none, kK (.goto (-17)) 3 130, none, none, kJ (.iconst 0) 1, kK (.istore_n 3) 1 3, kJ (.iconst 0) 1, kK (.istore 4) 2 4, none, kK (.iload 4) 2 4, none, kJ (.aload_n 0) 1, kI (.getfield 204) 3 12 12 0 0, none, none, kK (.if_icmp .ge 31) 3 192, none, none, kK (.iload_n 3) 1 3, kJ (.aload_n 0) 1, kI (.getfield 149) 3 12 58 0 0, none, none, kK (.iload 4) 2 4, none, kJ .iaload 1, kI (.invokestatic 232) 3 180 1 0 0, none, none, kV (.iconst 3) 1 3, kK (.if_icmp .ne 7) 3 183, none, none, kV (.iconst 1) 1 1, kK (.goto 4) 3 184, none, none, kJ (.iconst 0) 1, kJ .iadd 1, kK (.istore_n 3) 1 3, kI (.iinc 4 1) 3 4 0 0 1, none, none, kK (.goto (-34)) 3 155, none, none, kK (.iload_n 3) 1 3, kJ .ireturn 1]
def mK204 : List (Option mI) := mK204_0 ++ (mK204_1)
def mK205 : List (Option mI) := [kK (.iload_n 1) 1 1, kK (.ifCond .lt 28) 3 29, none, none, kK (.iload_n 1) 1 1, kV (.sipush 300) 3 300, none, none, kK (.if_icmp .gt 21) 3 29, none, none, kK (.iload_n 2) 1 2, kK (.ifCond .eq 8) 3 20, none, none, kK (.iload_n 2) 1 2, kV (.iconst 1) 1 1, kK (.if_icmp .ne 12) 3 29, none, none, kJ (.aload_n 0) 1, kK (.iload_n 1) 1 1, kK (.iload_n 2) 1 2, kI (.invokevirtual 294) 3 204 3 12 0, none, none, kK (.goto 5) 3 31, none, none, kV (.bipush (-102)) 2 (-102), none, kJ .ireturn 1]
def mK206 : List (Option mI) := [kK (.iload_n 1) 1 1, kK (.ifCond .lt 10) 3 11, none, none, kK (.iload_n 1) 1 1, kV (.sipush 300) 3 300, none, none, kK (.if_icmp .le 6) 3 14, none, none, kV (.bipush (-102)) 2 (-102), none, kJ .ireturn 1, kJ (.aload_n 0) 1, kK (.iload_n 1) 1 1, kJ (.iconst 0) 1, kI (.invokevirtual 294) 3 204 3 12 0, none, none, kK (.istore_n 2) 1 2, kJ (.aload_n 0) 1, kK (.iload_n 1) 1 1, kV (.iconst 1) 1 1, kI (.invokevirtual 294) 3 204 3 12 0, none, none, kK (.iload_n 2) 1 2, kK (.if_icmp .ge 7) 3 35, none, none, kV (.iconst 1) 1 1, kK (.goto 4) 3 36, none, none, kJ (.iconst 0) 1, kJ .ireturn 1]
def mK207 : List (Option mI) := [kK (.iload_n 1) 1 1, kJ (.iconst 0) 1, kV (.sipush 1200) 3 1200, none, none, kI (.invokestatic 183) 3 164 3 0 0, none, none, kK (.ifCond .eq 23) 3 31, none, none, kK (.iload_n 2) 1 2, kV (.sipush (-999)) 3 (-999), none, none, kK (.if_icmp .eq 19) 3 34, none, none, kK (.iload_n 2) 1 2, kV (.sipush (-300)) 3 (-300), none, none, kV (.sipush 600) 3 600, none, none, kI (.invokestatic 183) 3 164 3 0 0, none, none, kK (.ifCond .ne 6) 3 34, none, none, kV (.bipush (-102)) 2 (-102), none, kJ .ireturn 1, kJ (.aload_n 0) 1, kI (.getfield 297) 3 12 23 0 0, none, none, kV (.bipush 24) 2 24, none, kK (.if_icmp .ne 6) 3 46, none, none, kV (.bipush (-104)) 2 (-104), none, kJ .ireturn 1, kJ (.aload_n 0) 1, kI (.getfield 65) 3 12 24 0 0, none, none, kJ (.aload_n 0) 1, kI (.getfield 297) 3 12 23 0 0, none, none, kK (.iload_n 1) 1 1, kJ .iastore 1, kJ (.aload_n 0) 1, kI (.getfield 68) 3 12 25 0 0, none, none, kJ (.aload_n 0) 1, kI (.getfield 297) 3 12 23 0 0, none, none, kK (.iload_n 2) 1 2, kJ .iastore 1, kJ (.aload_n 0) 1, kJ .dup 1, kI (.getfield 297) 3 12 23 0 0, none, none, kV (.iconst 1) 1 1, kJ .iadd 1, kI (.putfield 297) 3 12 23 0 0, none, none, kJ (.aload_n 0) 1, kI (.getfield 297) 3 12 23 0 0, none, none, kJ .ireturn 1]
def mK208 : List (Option mI) := [kK (.iload_n 1) 1 1, kV (.iconst 1) 1 1, kV (.bipush 50) 2 50, none, kI (.invokestatic 183) 3 164 3 0 0, none, none, kK (.ifCond .ne 6) 3 13, none, none, kV (.bipush (-102)) 2 (-102), none, kJ .ireturn 1, kJ (.aload_n 0) 1, kI (.getfield 71) 3 12 26 0 0, none, none, kK (.istore_n 2) 1 2, kJ (.aload_n 0) 1, kK (.iload_n 1) 1 1, kI (.putfield 71) 3 12 26 0 0, none, none, kK (.iload_n 2) 1 2, kJ .ireturn 1]
def mK209 : List (Option mI) := [kJ (.aload_n 0) 1, kI (.getfield 65) 3 12 24 0 0, none, none, kK (.iload_n 1) 1 1, kJ .iaload 1, kK (.iload_n 2) 1 2, kJ .isub 1, kK (.istore_n 3) 1 3, kJ (.aload_n 0) 1, kI (.getfield 71) 3 12 26 0 0, none, none, kK (.iload_n 3) 1 3, kK (.ifCond .ge 8) 3 22, none, none, kK (.iload_n 3) 1 3, kJ .ineg 1, kK (.goto 4) 3 23, none, none, kK (.iload_n 3) 1 3, kJ .imul 1, kJ .ireturn 1]
def mK210 : List (Option mI) := [kK (.iload_n 2) 1 2, kK (.ifCond .ne 9) 3 10, none, none, kV (.sipush (-300)) 3 (-300), none, none, kK (.goto 6) 3 13, none, none, kV (.sipush 600) 3 600, none, none, kK (.istore_n 3) 1 3, kJ (.iconst 0) 1, kK (.istore 4) 2 4, none, kK (.iload 4) 2 4, none, kJ (.aload_n 0) 1, kI (.getfield 297) 3 12 23 0 0, none, none, kK (.if_icmp .ge 93) 3 116, none, none, kJ (.aload_n 0) 1, kI (.getfield 68) 3 12 25 0 0, none, none, kK (.iload 4) 2 4, none, kJ .iaload 1, kV (.sipush (-999)) 3 (-999), none, none, kK (.if_icmp .eq 74) 3 110, none, none, kK (.iload_n 2) 1 2, kK (.ifCond .ne 21) 3 61, none, none, kJ (.aload_n 0) 1, kI (.getfield 68) 3 12 25 0 0, none, none, kK (.iload 4) 2 4, none, kJ .iaload 1, kJ (.aload_n 0) 1, kK (.iload 4) 2 4, none, kK (.iload_n 1) 1 1, kI (.invokevirtual 300) 3 209 3 12 0, none, none, kJ .isub 1, kK (.goto 18) 3 76, none, none, kJ (.aload_n 0) 1, kI (.getfield 68) 3 12 25 0 0, none, none, kK (.iload 4) 2 4, none, kJ .iaload 1, kJ (.aload_n 0) 1, kK (.iload 4) 2 4, none, kK (.iload_n 1) 1 1, kI (.invokevirtual 300) 3 209 3 12 0, none, none, kJ .iadd 1, kK (.istore 5) 2 5, none, kK (.iload_n 2) 1 2, kK (.ifCond .ne 18) 3 97, none, none, kK (.iload 5) 2 5, none, kK (.iload_n 3) 1 3, kK (.if_icmp .le 8) 3 93, none, none, kK (.iload 5) 2 5, none, kK (.goto 19) 3 109, none, none, kK (.iload_n 3) 1 3, kK (.goto 15) 3 109, none, none, kK (.iload 5) 2 5, none, kK (.iload_n 3) 1 3, kK (.if_icmp .ge 8) 3 108, none, none, kK (.iload 5) 2 5, none, kK (.goto 4) 3 109, none, none, kK (.iload_n 3) 1 3, kK (.istore_n 3) 1 3, kI (.iinc 4 1) 3 4 0 0 1, none, none, kK (.goto (-96)) 3 17, none, none, kK (.iload_n 3) 1 3, kJ .ireturn 1]
def mK211 : List (Option mI) := [kJ (.iconst 0) 1, kK (.istore_n 1) 1 1, kK (.iload_n 1) 1 1, kJ (.aload_n 0) 1, kI (.getfield 297) 3 12 23 0 0, none, none, kK (.if_icmp .ge 63) 3 70, none, none, kJ (.aload_n 0) 1, kI (.getfield 68) 3 12 25 0 0, none, none, kK (.iload_n 1) 1 1, kJ .iaload 1, kV (.sipush (-999)) 3 (-999), none, none, kK (.if_icmp .eq 45) 3 64, none, none, kJ (.aload_n 0) 1, kJ (.aload_n 0) 1, kI (.getfield 65) 3 12 24 0 0, none, none, kK (.iload_n 1) 1 1, kJ .iaload 1, kJ (.iconst 0) 1, kI (.invokevirtual 303) 3 210 3 12 0, none, none, kJ (.aload_n 0) 1, kI (.getfield 68) 3 12 25 0 0, none, none, kK (.iload_n 1) 1 1, kJ .iaload 1, kK (.if_icmp .gt 23) 3 62, none, none, kJ (.aload_n 0) 1, kJ (.aload_n 0) 1, kI (.getfield 65) 3 12 24 0 0, none, none, kK (.iload_n 1) 1 1, kJ .iaload 1, kV (.iconst 1) 1 1, kI (.invokevirtual 303) 3 210 3 12 0, none, none, kJ (.aload_n 0) 1, kI (.getfield 68) 3 12 25 0 0, none, none, kK (.iload_n 1) 1 1, kJ .iaload 1, kK (.if_icmp .ge 5) 3 64, none, none, kJ (.iconst 0) 1, kJ .ireturn 1, kI (.iinc 1 1) 3 1 0 0 1, none, none, kK (.goto (-65)) 3 2, none, none, kV (.iconst 1) 1 1, kJ .ireturn 1]
def mK212 : List (Option mI) := [kK (.iload_n 1) 1 1, kJ (.iconst 0) 1, kV (.sipush 1200) 3 1200, none, none, kI (.invokestatic 183) 3 164 3 0 0, none, none, kK (.ifCond .eq 12) 3 20, none, none, kK (.iload_n 2) 1 2, kJ (.iconst 0) 1, kV (.iconst 1) 1 1, kI (.invokestatic 183) 3 164 3 0 0, none, none, kK (.ifCond .ne 7) 3 24, none, none, kV (.sipush (-1002)) 3 (-1002), none, none, kJ .ireturn 1, kJ (.aload_n 0) 1, kI (.invokevirtual 306) 3 211 1 12 0, none, none, kK (.ifCond .eq 12) 3 40, none, none, kJ (.aload_n 0) 1, kK (.iload_n 1) 1 1, kK (.iload_n 2) 1 2, kI (.invokevirtual 303) 3 210 3 12 0, none, none, kK (.goto 6) 3 43, none, none, kV (.sipush (-1000)) 3 (-1000), none, none, kJ .ireturn 1]
def mK213 : List (Option mI) := [kK (.iload_n 1) 1 1, kJ (.iconst 0) 1, kV (.sipush 1200) 3 1200, none, none, kI (.invokestatic 183) 3 164 3 0 0, none, none, kK (.ifCond .eq 27) 3 35, none, none, kK (.iload_n 2) 1 2, kK (.iload_n 1) 1 1, kV (.sipush 1200) 3 1200, none, none, kI (.invokestatic 183) 3 164 3 0 0, none, none, kK (.ifCond .eq 16) 3 35, none, none, kK (.iload_n 3) 1 3, kV (.sipush (-300)) 3 (-300), none, none, kV (.sipush 600) 3 600, none, none, kI (.invokestatic 183) 3 164 3 0 0, none, none, kK (.ifCond .ne 6) 3 38, none, none, kV (.bipush (-102)) 2 (-102), none, kJ .ireturn 1, kJ (.aload_n 0) 1, kI (.invokevirtual 306) 3 211 1 12 0, none, none, kK (.ifCond .ne 5) 3 47, none, none, kV (.iconst (-1)) 1 (-1), kJ .ireturn 1, kJ (.iconst 0) 1, kK (.istore 4) 2 4, none, kK (.iload_n 1) 1 1, kK (.istore 5) 2 5, none, kK (.iload 5) 2 5, none, kK (.iload_n 2) 1 2, kK (.if_icmp .gt 58) 3 114, none, none, kJ (.aload_n 0) 1, kK (.iload 5) 2 5, none, kJ (.iconst 0) 1, kI (.invokevirtual 303) 3 210 3 12 0, none, none, kK (.iload_n 3) 1 3, kK (.if_icmp .le 7) 3 74, none, none, kV (.iconst 2) 1 2, kK (.goto 19) 3 90, none, none, kJ (.aload_n 0) 1, kK (.iload 5) 2 5, none, kV (.iconst 1) 1 1, kI (.invokevirtual 303) 3 210 3 12 0, none, none, kK (.iload_n 3) 1 3, kK (.if_icmp .le 7) 3 89, none, none, kV (.iconst 1) 1 1, kK (.goto 4) 3 90, none, none, kJ (.iconst 0) 1, kK (.istore 6) 2 6, none, kK (.iload 6) 2 6, none, kK (.iload 4) 2 4, none, kK (.if_icmp .le 8) 3 104, none, none, kK (.iload 6) 2 6, none, kK (.goto 5) 3 106, none, none, kK (.iload 4) 2 4, none, kK (.istore 4) 2 4, none, kI (.iinc 5 1) 3 5 0 0 1, none, none, kK (.goto (-58)) 3 53, none, none, kK (.iload 4) 2 4, none, kJ .ireturn 1]
def mK214 : List (Option mI) := [kK (.iload_n 1) 1 1, kJ (.iconst 0) 1, kV (.bipush 99) 2 99, none, kI (.invokestatic 183) 3 164 3 0 0, none, none, kK (.ifCond .ne 6) 3 13, none, none, kV (.bipush (-102)) 2 (-102), none, kJ .ireturn 1, kJ (.aload_n 0) 1, kI (.getfield 310) 3 12 27 0 0, none, none, kV (.bipush 8) 2 8, none, kK (.if_icmp .ne 6) 3 25, none, none, kV (.bipush (-104)) 2 (-104), none, kJ .ireturn 1, kJ (.aload_n 0) 1, kI (.getfield 74) 3 12 28 0 0, none, none, kJ (.aload_n 0) 1, kI (.getfield 310) 3 12 27 0 0, none, none, kK (.iload_n 1) 1 1, kJ .iastore 1, kJ (.aload_n 0) 1, kJ .dup 1, kI (.getfield 310) 3 12 27 0 0, none, none, kV (.iconst 1) 1 1, kJ .iadd 1, kI (.putfield 310) 3 12 27 0 0, none, none, kJ (.aload_n 0) 1, kI (.getfield 310) 3 12 27 0 0, none, none, kJ .ireturn 1]
def mK215 : List (Option mI) := [kJ (.iconst 0) 1, kK (.istore_n 1) 1 1, kJ (.iload_n 0) 1, kK (.istore_n 2) 1 2, kK (.iload_n 2) 1 2, kK (.ifCond .eq 15) 3 20, none, none, kI (.iinc 1 1) 3 1 0 0 1, none, none, kK (.iload_n 2) 1 2, kK (.iload_n 2) 1 2, kV (.iconst 1) 1 1, kJ .isub 1, kJ .iand 1, kK (.istore_n 2) 1 2, kK (.goto (-13)) 3 4, none, none, kK (.iload_n 1) 1 1, kJ .ireturn 1]
def mK216 : List (Option mI) := [kJ (.aload_n 0) 1, kI (.getfield 165) 3 12 69 0 0, none, none, kK (.iload_n 1) 1 1, kJ .iaload 1, kK (.istore_n 3) 1 3, kJ (.iconst 0) 1, kK (.istore 4) 2 4, none, kK (.iload 4) 2 4, none, kK (.iload_n 1) 1 1, kK (.if_icmp .ge 47) 3 60, none, none, kK (.iload_n 3) 1 3, kJ (.aload_n 0) 1, kI (.getfield 159) 3 12 67 0 0, none, none, kK (.iload 4) 2 4, none, kJ .iaload 1, kK (.iload_n 2) 1 2, kK (.if_icmp .ne 26) 3 51, none, none, kJ (.aload_n 0) 1, kI (.getfield 74) 3 12 28 0 0, none, none, kK (.iload 4) 2 4, none, kJ .iaload 1, kJ (.aload_n 0) 1, kI (.getfield 74) 3 12 28 0 0, none, none, kK (.iload_n 1) 1 1, kJ .iaload 1, kK (.if_icmp .ge 10) 3 51, none, none, kV (.iconst 1) 1 1, kK (.iload 4) 2 4, none, kJ .ishl 1, kK (.goto 4) 3 52, none, none, kJ (.iconst 0) 1, kJ .ior 1, kK (.istore_n 3) 1 3, kI (.iinc 4 1) 3 4 0 0 1, none, none, kK (.goto (-47)) 3 10, none, none, kK (.iload_n 3) 1 3, kJ .ireturn 1]
def mK217_0 : List (Option mI) := [kJ (.aload_n 0) 1, kV (.iconst (-1)) 1 (-1), kI (.putfield 313) 3 12 70 0 0, none, none, kJ (.iconst 0) 1, kK (.istore_n 3) 1 3, kK (.iload_n 3) 1 3, kV (.iconst 4) 1 4, kK (.if_icmp .ge 16) 3 25, none, none, kJ (.aload_n 0) 1, kI (.getfield 162) 3 12 68 0 0, none, none, kK (.iload_n 3) 1 3, kJ (.iconst 0) 1, kJ .iastore 1, kI (.iinc 3 1) 3 3 0 0 1, none, none, kK (.goto (-15)) 3 7, none, none, kJ (.iconst 0) 1, kK (.istore_n 3) 1 3, kJ (.aload_n 0) 1, kI (.getfield 165) 3 12 69 0 0, none, none, kJ (.iconst 0) 1, kJ (.iconst 0) 1, kJ .iastore 1, kJ (.aload_n 0) 1, kI (.getfield 159) 3 12 67 0 0, none, none, kJ (.iconst 0) 1, kV (.iconst (-1)) 1 (-1), kJ .iastore 1, kK (.iload_n 3) 1 3, kK (.ifCond .lt 211) 3 253, none, none, kK (.iload_n 3) 1 3, kJ (.aload_n 0) 1, kI (.getfield 310) 3 12 27 0 0, none, none, kK (.if_icmp .ne 54) 3 104, none, none, kJ (.aload_n 0) 1, kJ (.aload_n 0) 1, kI (.getfield 165) 3 12 69 0 0, none, none, kK (.iload_n 3) 1 3, kJ .iaload 1, kI (.invokestatic 316) 3 215 1 0 0, none, none, kI (.putfield 313) 3 12 70 0 0, none, none, kJ (.iconst 0) 1, kK (.istore 4) 2 4, none, kK (.iload 4) 2 4, none, kJ (.aload_n 0) 1, kI (.getfield 310) 3 12 27 0 0, none, none, kK (.if_icmp .ge 23) 3 98, none, none, kJ (.aload_n 0) 1, kI (.getfield 168) 3 12 71 0 0, none, none, kK (.iload 4) 2 4, none, kJ (.aload_n 0) 1, kI (.getfield 159) 3 12 67 0 0, none, none, kK (.iload 4) 2 4, none, kJ .iaload 1, kJ .iastore 1, kI (.iinc 4 1) 3 4 0 0 1, none, none, kK (.goto (-26)) 3 69, none, none, kI (.iinc 3 (-1)) 3 3 0 0 (-1), none, none, kK (.goto (-60)) 3 41, none, none, kJ (.aload_n 0) 1, kI (.getfield 159) 3 12 67 0 0, none, none, kK (.iload_n 3) 1 3, kJ .iaload 1, kV (.iconst (-1)) 1 (-1), kK (.if_icmp .eq 18) 3 129, none, none, kJ (.aload_n 0) 1, kI (.getfield 162) 3 12 68 0 0, none, none, kJ (.aload_n 0) 1, kI (.getfield 159) 3 12 67 0 0]
def mK217_1 : List (Option mI) := [none, none, kK (.iload_n 3) 1 3, kJ .iaload 1, kJ .dup2 1, kJ .iaload 1, kV (.iconst 1) 1 1, kJ .isub 1, kJ .iastore 1, kJ (.aload_n 0) 1, kI (.getfield 159) 3 12 67 0 0, none, none, kK (.iload_n 3) 1 3, kJ .iaload 1, kV (.iconst 1) 1 1, kJ .iadd 1, kK (.istore 4) 2 4, none, kK (.iload 4) 2 4, none, kK (.iload_n 1) 1 1, kK (.if_icmp .ge 45) 3 187, none, none, kJ (.aload_n 0) 1, kI (.getfield 162) 3 12 68 0 0, none, none, kK (.iload 4) 2 4, none, kJ .iaload 1, kK (.iload_n 2) 1 2, kK (.if_icmp .eq 28) 3 181, none, none, kJ (.aload_n 0) 1, kI (.getfield 313) 3 12 70 0 0, none, none, kV (.iconst (-1)) 1 (-1), kK (.if_icmp .eq 26) 3 187, none, none, kJ (.aload_n 0) 1, kK (.iload_n 3) 1 3, kK (.iload 4) 2 4, none, kI (.invokevirtual 319) 3 216 3 12 0, none, none, kI (.invokestatic 316) 3 215 1 0 0, none, none, kJ (.aload_n 0) 1, kI (.getfield 313) 3 12 70 0 0, none, none, kK (.if_icmp .lt 9) 3 187, none, none, kI (.iinc 4 1) 3 4 0 0 1, none, none, kK (.goto (-45)) 3 139, none, none, kK (.iload 4) 2 4, none, kK (.iload_n 1) 1 1, kK (.if_icmp .ne 16) 3 206, none, none, kJ (.aload_n 0) 1, kI (.getfield 159) 3 12 67 0 0, none, none, kK (.iload_n 3) 1 3, kV (.iconst (-1)) 1 (-1), kJ .iastore 1, kI (.iinc 3 (-1)) 3 3 0 0 (-1), none, none, kK (.goto 47) 3 250, none, none, kJ (.aload_n 0) 1, kI (.getfield 165) 3 12 69 0 0, none, none, kK (.iload_n 3) 1 3, kV (.iconst 1) 1 1, kJ .iadd 1, kJ (.aload_n 0) 1, kK (.iload_n 3) 1 3, kK (.iload 4) 2 4, none, kI (.invokevirtual 319) 3 216 3 12 0, none, none, kJ .iastore 1, kJ (.aload_n 0) 1, kI (.getfield 159) 3 12 67 0 0, none, none, kK (.iload_n 3) 1 3, kK (.iload 4) 2 4, none, kJ .iastore 1, kJ (.aload_n 0) 1, kI (.getfield 162) 3 12 68 0 0, none, none, kK (.iload 4) 2 4, none, kJ .dup2 1, kJ .iaload 1, kV (.iconst 1) 1 1, kJ .iadd 1, kJ .iastore 1]
def mK217_2 : List (Option mI) := [kI (.iinc 3 1) 3 3 0 0 1, none, none, kJ (.aload_n 0) 1, kI (.getfield 159) 3 12 67 0 0, none, none, kK (.iload_n 3) 1 3, kV (.iconst (-1)) 1 (-1), kJ .iastore 1, kK (.goto (-209)) 3 41, none, none, kJ .return_ 1]
def mK217 : List (Option mI) := mK217_0 ++ (mK217_1 ++ (mK217_2))
def mK218 : List (Option mI) := [kK (.iload_n 1) 1 1, kV (.iconst 1) 1 1, kV (.iconst 4) 1 4, kI (.invokestatic 183) 3 164 3 0 0, none, none, kK (.ifCond .eq 28) 3 34, none, none, kK (.iload_n 2) 1 2, kV (.iconst 1) 1 1, kV (.bipush 8) 2 8, none, kI (.invokestatic 183) 3 164 3 0 0, none, none, kK (.ifCond .eq 18) 3 34, none, none, kK (.iload_n 3) 1 3, kK (.ifCond .eq 17) 3 37, none, none, kK (.iload_n 3) 1 3, kV (.bipush 10) 2 10, none, kV (.bipush 17) 2 17, none, kI (.invokestatic 183) 3 164 3 0 0, none, none, kK (.ifCond .ne 6) 3 37, none, none, kV (.bipush (-102)) 2 (-102), none, kJ .ireturn 1, kJ (.aload_n 0) 1, kI (.getfield 310) 3 12 27 0 0, none, none, kK (.iload_n 1) 1 1, kK (.iload_n 2) 1 2, kJ .imul 1, kK (.if_icmp .le 5) 3 49, none, none, kV (.iconst (-1)) 1 (-1), kJ .ireturn 1, kJ (.aload_n 0) 1, kK (.iload_n 1) 1 1, kK (.iload_n 2) 1 2, kI (.invokevirtual 322) 3 217 3 12 0, none, none, kK (.iload_n 3) 1 3, kK (.ifCond .ne 8) 3 64, none, none, kJ (.aload_n 0) 1, kI (.getfield 313) 3 12 70 0 0, none, none, kJ .ireturn 1, kK (.iload_n 3) 1 3, kV (.bipush 10) 2 10, none, kJ .isub 1, kJ (.aload_n 0) 1, kI (.getfield 310) 3 12 27 0 0, none, none, kK (.if_icmp .ge 15) 3 87, none, none, kJ (.aload_n 0) 1, kI (.getfield 168) 3 12 71 0 0, none, none, kK (.iload_n 3) 1 3, kV (.bipush 10) 2 10, none, kJ .isub 1, kJ .iaload 1, kK (.goto 4) 3 88, none, none, kV (.iconst (-1)) 1 (-1), kJ .ireturn 1]
def mK219 : List (Option mI) := [kK (.iload_n 1) 1 1, kJ (.iconst 0) 1, kJ (.aload_n 0) 1, kI (.getfield 326) 3 12 29 0 0, none, none, kV (.iconst 1) 1 1, kJ .isub 1, kI (.invokestatic 183) 3 164 3 0 0, none, none, kJ .ireturn 1]
def mK220 : List (Option mI) := [kK (.iload_n 1) 1 1, kV (.iconst 1) 1 1, kV (.sipush 999) 3 999, none, none, kI (.invokestatic 183) 3 164 3 0 0, none, none, kK (.ifCond .eq 13) 3 21, none, none, kK (.iload_n 2) 1 2, kV (.iconst 1) 1 1, kV (.bipush 99) 2 99, none, kI (.invokestatic 183) 3 164 3 0 0, none, none, kK (.ifCond .ne 6) 3 24, none, none, kV (.bipush (-102)) 2 (-102), none, kJ .ireturn 1, kJ (.aload_n 0) 1, kI (.getfield 326) 3 12 29 0 0, none, none, kV (.bipush 6) 2 6, none, kK (.if_icmp .ne 6) 3 36, none, none, kV (.bipush (-104)) 2 (-104), none, kJ .ireturn 1, kJ (.aload_n 0) 1, kI (.getfield 77) 3 12 30 0 0, none, none, kJ (.aload_n 0) 1, kI (.getfield 326) 3 12 29 0 0, none, none, kK (.iload_n 1) 1 1, kJ .iastore 1, kJ (.aload_n 0) 1, kI (.getfield 80) 3 12 31 0 0, none, none, kJ (.aload_n 0) 1, kI (.getfield 326) 3 12 29 0 0, none, none, kK (.iload_n 2) 1 2, kJ .iastore 1, kJ (.aload_n 0) 1, kJ .dup 1, kI (.getfield 326) 3 12 29 0 0, none, none, kV (.iconst 1) 1 1, kJ .iadd 1, kI (.putfield 326) 3 12 29 0 0, none, none, kJ (.aload_n 0) 1, kI (.getfield 326) 3 12 29 0 0, none, none, kV (.iconst 1) 1 1, kJ .isub 1, kJ .ireturn 1]
def mK221 : List (Option mI) := [kK (.iload_n 1) 1 1, kJ (.iconst 0) 1, kV (.iconst 3) 1 3, kI (.invokestatic 183) 3 164 3 0 0, none, none, kK (.ifCond .ne 6) 3 12, none, none, kV (.bipush (-101)) 2 (-101), none, kJ .ireturn 1, kK (.iload_n 2) 1 2, kJ (.iconst 0) 1, kV (.sipush 9999) 3 9999, none, none, kI (.invokestatic 183) 3 164 3 0 0, none, none, kK (.ifCond .ne 6) 3 26, none, none, kV (.bipush (-102)) 2 (-102), none, kJ .ireturn 1, kJ (.aload_n 0) 1, kI (.getfield 86) 3 12 33 0 0, none, none, kK (.iload_n 1) 1 1, kJ .iaload 1, kK (.istore_n 3) 1 3, kJ (.aload_n 0) 1, kI (.getfield 86) 3 12 33 0 0, none, none, kK (.iload_n 1) 1 1, kK (.iload_n 2) 1 2, kJ .iastore 1, kK (.iload_n 3) 1 3, kJ .ireturn 1]
def mK222 : List (Option mI) := [kJ (.aload_n 0) 1, kK (.iload_n 1) 1 1, kI (.invokevirtual 329) 3 219 2 12 0, none, none, kK (.ifCond .eq 12) 3 17, none, none, kK (.iload_n 2) 1 2, kJ (.iconst 0) 1, kV (.iconst 3) 1 3, kI (.invokestatic 183) 3 164 3 0 0, none, none, kK (.ifCond .ne 6) 3 20, none, none, kV (.bipush (-101)) 2 (-101), none, kJ .ireturn 1, kK (.iload_n 3) 1 3, kJ (.iconst 0) 1, kV (.bipush 60) 2 60, none, kI (.invokestatic 183) 3 164 3 0 0, none, none, kK (.ifCond .ne 6) 3 33, none, none, kV (.bipush (-102)) 2 (-102), none, kJ .ireturn 1, kJ (.aload_n 0) 1, kI (.getfield 83) 3 12 32 0 0, none, none, kV (.iconst 4) 1 4, kK (.iload_n 1) 1 1, kJ .imul 1, kK (.iload_n 2) 1 2, kJ .iadd 1, kJ .iaload 1, kK (.istore 4) 2 4, none, kJ (.aload_n 0) 1, kI (.getfield 83) 3 12 32 0 0, none, none, kV (.iconst 4) 1 4, kK (.iload_n 1) 1 1, kJ .imul 1, kK (.iload_n 2) 1 2, kJ .iadd 1, kK (.iload_n 3) 1 3, kJ .iastore 1, kK (.iload 4) 2 4, none, kJ .ireturn 1]
def mK223 : List (Option mI) := [kK (.iload_n 1) 1 1, kJ (.iconst 0) 1, kV (.bipush 9) 2 9, none, kI (.invokestatic 183) 3 164 3 0 0, none, none, kK (.ifCond .ne 6) 3 13, none, none, kV (.bipush (-102)) 2 (-102), none, kJ .ireturn 1, kJ (.aload_n 0) 1, kI (.getfield 89) 3 12 34 0 0, none, none, kK (.istore_n 2) 1 2, kJ (.aload_n 0) 1, kK (.iload_n 1) 1 1, kI (.putfield 89) 3 12 34 0 0, none, none, kK (.iload_n 2) 1 2, kJ .ireturn 1]
def mK224 : List (Option mI) := [kK (.iload_n 2) 1 2, kV (.iconst 4) 1 4, kK (.if_icmp .ne 7) 3 9, none, none, kJ (.iconst 0) 1, kK (.goto 25) 3 31, none, none, kJ (.aload_n 0) 1, kI (.getfield 80) 3 12 31 0 0, none, none, kK (.iload_n 1) 1 1, kJ .iaload 1, kJ (.aload_n 0) 1, kI (.getfield 89) 3 12 34 0 0, none, none, kJ (.aload_n 0) 1, kI (.getfield 83) 3 12 32 0 0, none, none, kV (.iconst 4) 1 4, kK (.iload_n 1) 1 1, kJ .imul 1, kK (.iload_n 2) 1 2, kJ .iadd 1, kJ .iaload 1, kJ .imul 1, kJ .isub 1, kK (.istore_n 3) 1 3, kK (.iload_n 3) 1 3, kK (.ifCond .ge 7) 3 40, none, none, kJ (.iconst 0) 1, kK (.goto 11) 3 48, none, none, kJ (.aload_n 0) 1, kI (.getfield 77) 3 12 30 0 0, none, none, kK (.iload_n 1) 1 1, kJ .iaload 1, kK (.iload_n 3) 1 3, kJ .imul 1, kJ .ireturn 1]
def mK225_0 : List (Option mI) := [kV (.iconst 1) 1 1, kK (.istore_n 1) 1 1, kJ (.iconst 0) 1, kK (.istore_n 2) 1 2, kK (.iload_n 2) 1 2, kJ (.aload_n 0) 1, kI (.getfield 326) 3 12 29 0 0, none, none, kK (.if_icmp .ge 13) 3 22, none, none, kK (.iload_n 1) 1 1, kV (.iconst 5) 1 5, kJ .imul 1, kK (.istore_n 1) 1 1, kI (.iinc 2 1) 3 2 0 0 1, none, none, kK (.goto (-15)) 3 4, none, none, kV (.iconst (-1)) 1 (-1), kK (.istore_n 2) 1 2, kJ (.iconst 0) 1, kK (.istore_n 3) 1 3, kK (.iload_n 3) 1 3, kK (.iload_n 1) 1 1, kK (.if_icmp .ge 192) 3 220, none, none, kK (.iload_n 1) 1 1, kK (.istore 4) 2 4, none, kJ (.iconst 0) 1, kK (.istore 5) 2 5, none, kV (.iconst 1) 1 1, kK (.istore 6) 2 6, none, kJ (.iconst 0) 1, kK (.istore 7) 2 7, none, kK (.iload 7) 2 7, none, kV (.iconst 5) 1 5, kK (.if_icmp .ge 17) 3 63, none, none, kJ (.aload_n 0) 1, kI (.getfield 174) 3 12 73 0 0, none, none, kK (.iload 7) 2 7, none, kJ (.iconst 0) 1, kJ .iastore 1, kI (.iinc 7 1) 3 7 0 0 1, none, none, kK (.goto (-17)) 3 43, none, none, kJ (.iconst 0) 1, kK (.istore 7) 2 7, none, kK (.iload 7) 2 7, none, kJ (.aload_n 0) 1, kI (.getfield 326) 3 12 29 0 0, none, none, kK (.if_icmp .ge 88) 3 160, none, none, kK (.iload 4) 2 4, none, kV (.iconst 5) 1 5, kJ .idiv 1, kK (.istore 4) 2 4, none, kK (.iload_n 3) 1 3, kK (.iload 4) 2 4, none, kJ .idiv 1, kV (.iconst 5) 1 5, kJ .irem 1, kK (.istore 8) 2 8, none, kJ (.aload_n 0) 1, kI (.getfield 174) 3 12 73 0 0, none, none, kK (.iload 8) 2 8, none, kJ .dup2 1, kJ .iaload 1, kJ (.aload_n 0) 1, kI (.getfield 77) 3 12 30 0 0, none, none, kK (.iload 7) 2 7, none, kJ .iaload 1, kJ .iadd 1, kJ .iastore 1, kK (.iload 6) 2 6, none, kK (.ifCond .eq 30) 3 138, none, none, kK (.iload 8) 2 8, none, kV (.iconst 4) 1 4, kK (.if_icmp .eq 20) 3 134, none, none, kJ (.aload_n 0) 1, kI (.getfield 174) 3 12 73 0 0, none]
def mK225_1 : List (Option mI) := [none, kK (.iload 8) 2 8, none, kJ .iaload 1, kJ (.aload_n 0) 1, kI (.getfield 86) 3 12 33 0 0, none, none, kK (.iload 8) 2 8, none, kJ .iaload 1, kK (.if_icmp .gt 7) 3 138, none, none, kV (.iconst 1) 1 1, kK (.goto 4) 3 139, none, none, kJ (.iconst 0) 1, kK (.istore 6) 2 6, none, kK (.iload 5) 2 5, none, kJ (.aload_n 0) 1, kK (.iload 7) 2 7, none, kK (.iload 8) 2 8, none, kI (.invokevirtual 332) 3 224 3 12 0, none, none, kJ .iadd 1, kK (.istore 5) 2 5, none, kI (.iinc 7 1) 3 7 0 0 1, none, none, kK (.goto (-91)) 3 66, none, none, kK (.iload 6) 2 6, none, kK (.ifCond .eq 52) 3 214, none, none, kK (.iload 5) 2 5, none, kK (.iload_n 2) 1 2, kK (.if_icmp .le 46) 3 214, none, none, kK (.iload 5) 2 5, none, kK (.istore_n 2) 1 2, kK (.iload_n 1) 1 1, kK (.istore 4) 2 4, none, kJ (.iconst 0) 1, kK (.istore 7) 2 7, none, kK (.iload 7) 2 7, none, kJ (.aload_n 0) 1, kI (.getfield 326) 3 12 29 0 0, none, none, kK (.if_icmp .ge 28) 3 214, none, none, kK (.iload 4) 2 4, none, kV (.iconst 5) 1 5, kJ .idiv 1, kK (.istore 4) 2 4, none, kJ (.aload_n 0) 1, kI (.getfield 171) 3 12 72 0 0, none, none, kK (.iload 7) 2 7, none, kK (.iload_n 3) 1 3, kK (.iload 4) 2 4, none, kJ .idiv 1, kV (.iconst 5) 1 5, kJ .irem 1, kJ .iastore 1, kI (.iinc 7 1) 3 7 0 0 1, none, none, kK (.goto (-31)) 3 180, none, none, kI (.iinc 3 1) 3 3 0 0 1, none, none, kK (.goto (-191)) 3 26, none, none, kK (.iload_n 2) 1 2, kJ .ireturn 1]
def mK225 : List (Option mI) := mK225_0 ++ (mK225_1)
def mK226 : List (Option mI) := [kK (.iload_n 1) 1 1, kK (.ifCond .eq 17) 3 18, none, none, kK (.iload_n 1) 1 1, kV (.bipush 10) 2 10, none, kV (.bipush 15) 2 15, none, kI (.invokestatic 183) 3 164 3 0 0, none, none, kK (.ifCond .ne 6) 3 18, none, none, kV (.bipush (-102)) 2 (-102), none, kJ .ireturn 1, kJ (.aload_n 0) 1, kI (.invokevirtual 335) 3 225 1 12 0, none, none, kK (.istore_n 2) 1 2, kK (.iload_n 1) 1 1, kK (.ifCond .ne 7) 3 31, none, none, kK (.iload_n 2) 1 2, kK (.goto 27) 3 55, none, none, kK (.iload_n 1) 1 1, kV (.bipush 10) 2 10, none, kJ .isub 1, kJ (.aload_n 0) 1, kI (.getfield 326) 3 12 29 0 0, none, none, kK (.if_icmp .ge 15) 3 54, none, none, kJ (.aload_n 0) 1, kI (.getfield 171) 3 12 72 0 0, none, none, kK (.iload_n 1) 1 1, kV (.bipush 10) 2 10, none, kJ .isub 1, kJ .iaload 1, kK (.goto 4) 3 55, none, none, kV (.iconst (-1)) 1 (-1), kJ .ireturn 1]
def mK227_0 : List (Option mI) := [kK (.iload_n 1) 1 1, kJ (.iconst 0) 1, kV (.iconst 3) 1 3, kI (.invokestatic 183) 3 164 3 0 0, none, none, kK (.ifCond .ne 6) 3 12, none, none, kV (.bipush (-101)) 2 (-101), none, kJ .ireturn 1, kK (.iload_n 2) 1 2, kK (.iload_n 1) 1 1, kV (.iconst 3) 1 3, kK (.if_icmp .ne 7) 3 22, none, none, kV (.iconst 1) 1 1, kK (.goto 4) 3 23, none, none, kJ (.iconst 0) 1, kK (.iload_n 1) 1 1, kK (.ifCond .ne 9) 3 33, none, none, kV (.sipush 999) 3 999, none, none, kK (.goto 15) 3 45, none, none, kK (.iload_n 1) 1 1, kV (.iconst 1) 1 1, kK (.if_icmp .ne 8) 3 43, none, none, kV (.bipush 99) 2 99, none, kK (.goto 5) 3 45, none, none, kV (.bipush 6) 2 6, none, kI (.invokestatic 183) 3 164 3 0 0, none, none, kK (.ifCond .ne 6) 3 54, none, none, kV (.bipush (-102)) 2 (-102), none, kJ .ireturn 1, kK (.iload_n 1) 1 1, kK (.ifCond .ne 10) 3 65, none, none, kJ (.aload_n 0) 1, kI (.getfield 92) 3 12 35 0 0, none, none, kK (.goto 31) 3 93, none, none, kK (.iload_n 1) 1 1, kV (.iconst 1) 1 1, kK (.if_icmp .ne 10) 3 77, none, none, kJ (.aload_n 0) 1, kI (.getfield 95) 3 12 36 0 0, none, none, kK (.goto 19) 3 93, none, none, kK (.iload_n 1) 1 1, kV (.iconst 2) 1 2, kK (.if_icmp .ne 10) 3 89, none, none, kJ (.aload_n 0) 1, kI (.getfield 98) 3 12 37 0 0, none, none, kK (.goto 7) 3 93, none, none, kJ (.aload_n 0) 1, kI (.getfield 101) 3 12 38 0 0, none, none, kK (.istore_n 3) 1 3, kJ (.aload_n 0) 1, kK (.iload_n 1) 1 1, kK (.ifCond .ne 7) 3 103, none, none, kK (.iload_n 2) 1 2, kK (.goto 7) 3 107, none, none, kJ (.aload_n 0) 1, kI (.getfield 92) 3 12 35 0 0, none, none, kI (.putfield 92) 3 12 35 0 0, none, none, kJ (.aload_n 0) 1, kK (.iload_n 1) 1 1, kV (.iconst 1) 1 1, kK (.if_icmp .ne 7) 3 120, none, none, kK (.iload_n 2) 1 2, kK (.goto 7) 3 124, none, none]
def mK227_1 : List (Option mI) := [kJ (.aload_n 0) 1, kI (.getfield 95) 3 12 36 0 0, none, none, kI (.putfield 95) 3 12 36 0 0, none, none, kJ (.aload_n 0) 1, kK (.iload_n 1) 1 1, kV (.iconst 2) 1 2, kK (.if_icmp .ne 7) 3 137, none, none, kK (.iload_n 2) 1 2, kK (.goto 7) 3 141, none, none, kJ (.aload_n 0) 1, kI (.getfield 98) 3 12 37 0 0, none, none, kI (.putfield 98) 3 12 37 0 0, none, none, kJ (.aload_n 0) 1, kK (.iload_n 1) 1 1, kV (.iconst 3) 1 3, kK (.if_icmp .ne 7) 3 154, none, none, kK (.iload_n 2) 1 2, kK (.goto 7) 3 158, none, none, kJ (.aload_n 0) 1, kI (.getfield 101) 3 12 38 0 0, none, none, kI (.putfield 101) 3 12 38 0 0, none, none, kK (.iload_n 3) 1 3, kJ .ireturn 1]
def mK227 : List (Option mI) := mK227_0 ++ (mK227_1)
def mK228 : List (Option mI) := [kK (.iload_n 1) 1 1, kV (.iconst 1) 1 1, kV (.bipush 99) 2 99, none, kI (.invokestatic 183) 3 164 3 0 0, none, none, kK (.ifCond .eq 14) 3 21, none, none, kK (.iload_n 2) 1 2, kJ (.iconst 0) 1, kV (.sipush 999) 3 999, none, none, kI (.invokestatic 183) 3 164 3 0 0, none, none, kK (.ifCond .ne 6) 3 24, none, none, kV (.bipush (-102)) 2 (-102), none, kJ .ireturn 1, kJ (.aload_n 0) 1, kI (.getfield 339) 3 12 39 0 0, none, none, kV (.iconst 5) 1 5, kK (.if_icmp .ne 6) 3 35, none, none, kV (.bipush (-104)) 2 (-104), none, kJ .ireturn 1, kJ (.aload_n 0) 1, kI (.getfield 104) 3 12 40 0 0, none, none, kJ (.aload_n 0) 1, kI (.getfield 339) 3 12 39 0 0, none, none, kK (.iload_n 1) 1 1, kJ .iastore 1, kJ (.aload_n 0) 1, kI (.getfield 107) 3 12 41 0 0, none, none, kJ (.aload_n 0) 1, kI (.getfield 339) 3 12 39 0 0, none, none, kK (.iload_n 2) 1 2, kJ .iastore 1, kJ (.aload_n 0) 1, kJ .dup 1, kI (.getfield 339) 3 12 39 0 0, none, none, kV (.iconst 1) 1 1, kJ .iadd 1, kI (.putfield 339) 3 12 39 0 0, none, none, kJ (.aload_n 0) 1, kI (.getfield 339) 3 12 39 0 0, none, none, kV (.iconst 1) 1 1, kJ .isub 1, kJ .ireturn 1]
def mK229 : List (Option mI) := [kK (.iload_n 1) 1 1, kK (.ifCond .ge 10) 3 11, none, none, kJ (.aload_n 0) 1, kI (.getfield 92) 3 12 35 0 0, none, none, kK (.goto 9) 3 17, none, none, kJ (.aload_n 0) 1, kI (.getfield 177) 3 12 74 0 0, none, none, kK (.iload_n 1) 1 1, kJ .iaload 1, kJ .ireturn 1]
def mK230 : List (Option mI) := [kK (.iload_n 1) 1 1, kK (.ifCond .ge 7) 3 8, none, none, kJ (.iconst 0) 1, kK (.goto 9) 3 14, none, none, kJ (.aload_n 0) 1, kI (.getfield 180) 3 12 75 0 0, none, none, kK (.iload_n 1) 1 1, kJ .iaload 1, kJ .ireturn 1]
def mK231 : List (Option mI) := [kJ (.iconst 0) 1, kK (.istore_n 1) 1 1, kK (.iload_n 1) 1 1, kV (.sipush 200) 3 200, none, none, kK (.if_icmp .ge 106) 3 112, none, none, kJ (.aload_n 0) 1, kI (.getfield 92) 3 12 35 0 0, none, none, kJ (.aload_n 0) 1, kI (.getfield 95) 3 12 36 0 0, none, none, kJ (.aload_n 0) 1, kK (.iload_n 1) 1 1, kJ (.aload_n 0) 1, kI (.getfield 101) 3 12 38 0 0, none, none, kJ .isub 1, kI (.invokevirtual 342) 3 230 2 12 0, none, none, kJ .imul 1, kJ .isub 1, kK (.istore_n 2) 1 2, kJ (.aload_n 0) 1, kI (.getfield 177) 3 12 74 0 0, none, none, kK (.iload_n 1) 1 1, kK (.iload_n 2) 1 2, kK (.ifCond .ge 7) 3 43, none, none, kJ (.iconst 0) 1, kK (.goto 4) 3 44, none, none, kK (.iload_n 2) 1 2, kJ .iastore 1, kJ (.aload_n 0) 1, kI (.getfield 180) 3 12 75 0 0, none, none, kK (.iload_n 1) 1 1, kJ (.iconst 0) 1, kJ .iastore 1, kJ (.iconst 0) 1, kK (.istore_n 3) 1 3, kK (.iload_n 3) 1 3, kJ (.aload_n 0) 1, kI (.getfield 339) 3 12 39 0 0, none, none, kK (.if_icmp .ge 47) 3 106, none, none, kJ (.aload_n 0) 1, kI (.getfield 180) 3 12 75 0 0, none, none, kK (.iload_n 1) 1 1, kJ .dup2 1, kJ .iaload 1, kJ (.aload_n 0) 1, kK (.iload_n 1) 1 1, kJ (.aload_n 0) 1, kI (.getfield 98) 3 12 37 0 0, none, none, kJ .isub 1, kI (.invokevirtual 345) 3 229 2 12 0, none, none, kJ (.aload_n 0) 1, kI (.getfield 107) 3 12 41 0 0, none, none, kK (.iload_n 3) 1 3, kJ .iaload 1, kK (.if_icmp .lt 12) 3 97, none, none, kJ (.aload_n 0) 1, kI (.getfield 104) 3 12 40 0 0, none, none, kK (.iload_n 3) 1 3, kJ .iaload 1, kK (.goto 4) 3 98, none, none, kJ (.iconst 0) 1, kJ .iadd 1, kJ .iastore 1, kI (.iinc 3 1) 3 3 0 0 1, none, none, kK (.goto (-49)) 3 54, none, none, kI (.iinc 1 1) 3 1 0 0 1, none, none, kK (.goto (-107)) 3 2, none, none, kJ .return_ 1]
def mK232_0 : List (Option mI) := [kK (.iload_n 1) 1 1, kJ (.iconst 0) 1, kV (.sipush 199) 3 199, none, none, kI (.invokestatic 183) 3 164 3 0 0, none, none, kK (.ifCond .eq 12) 3 20, none, none, kK (.iload_n 2) 1 2, kJ (.iconst 0) 1, kV (.iconst 3) 1 3, kI (.invokestatic 183) 3 164 3 0 0, none, none, kK (.ifCond .ne 6) 3 23, none, none, kV (.bipush (-102)) 2 (-102), none, kJ .ireturn 1, kJ (.aload_n 0) 1, kI (.invokevirtual 348) 3 231 1 12 0, none, none, kJ (.iconst 0) 1, kK (.istore_n 3) 1 3, kJ (.iconst 0) 1, kK (.istore 4) 2 4, none, kJ (.iconst 0) 1, kK (.istore 5) 2 5, none, kK (.iload 5) 2 5, none, kJ (.aload_n 0) 1, kI (.getfield 339) 3 12 39 0 0, none, none, kK (.if_icmp .ge 88) 3 129, none, none, kJ (.aload_n 0) 1, kK (.iload_n 1) 1 1, kJ (.aload_n 0) 1, kI (.getfield 98) 3 12 37 0 0, none, none, kJ .isub 1, kI (.invokevirtual 345) 3 229 2 12 0, none, none, kJ (.aload_n 0) 1, kI (.getfield 107) 3 12 41 0 0, none, none, kK (.iload 5) 2 5, none, kJ .iaload 1, kK (.if_icmp .lt 7) 3 68, none, none, kV (.iconst 1) 1 1, kK (.goto 4) 3 69, none, none, kJ (.iconst 0) 1, kK (.istore 6) 2 6, none, kK (.iload_n 3) 1 3, kK (.iload 6) 2 6, none, kK (.ifCond .eq 10) 3 84, none, none, kV (.iconst 1) 1 1, kK (.iload 5) 2 5, none, kJ .ishl 1, kK (.goto 4) 3 85, none, none, kJ (.iconst 0) 1, kJ .ior 1, kK (.istore_n 3) 1 3, kK (.iload 4) 2 4, none, kK (.iload 6) 2 6, none, kJ (.aload_n 0) 1, kI (.getfield 177) 3 12 74 0 0, none, none, kK (.iload_n 1) 1 1, kJ .iaload 1, kJ (.aload_n 0) 1, kI (.getfield 107) 3 12 41 0 0, none, none, kK (.iload 5) 2 5, none, kJ .iaload 1, kK (.if_icmp .lt 7) 3 111, none, none, kV (.iconst 1) 1 1, kK (.goto 4) 3 112, none, none, kJ (.iconst 0) 1, kK (.if_icmp .ne 7) 3 119, none, none, kJ (.iconst 0) 1, kK (.goto 4) 3 120, none, none, kV (.iconst 1) 1 1]
def mK232_1 : List (Option mI) := [kJ .iadd 1, kK (.istore 4) 2 4, none, kI (.iinc 5 1) 3 5 0 0 1, none, none, kK (.goto (-91)) 3 35, none, none, kK (.iload_n 2) 1 2, kK (.ifCond .ne 12) 3 142, none, none, kJ (.aload_n 0) 1, kI (.getfield 177) 3 12 74 0 0, none, none, kK (.iload_n 1) 1 1, kJ .iaload 1, kK (.goto 28) 3 167, none, none, kK (.iload_n 2) 1 2, kV (.iconst 1) 1 1, kK (.if_icmp .ne 12) 3 156, none, none, kJ (.aload_n 0) 1, kI (.getfield 180) 3 12 75 0 0, none, none, kK (.iload_n 1) 1 1, kJ .iaload 1, kK (.goto 14) 3 167, none, none, kK (.iload_n 2) 1 2, kV (.iconst 2) 1 2, kK (.if_icmp .ne 8) 3 166, none, none, kK (.iload 4) 2 4, none, kK (.goto 4) 3 167, none, none, kK (.iload_n 3) 1 3, kJ .ireturn 1]
def mK232 : List (Option mI) := mK232_0 ++ (mK232_1)
def mK233 : List (Option mI) := [kV (.iconst 1) 1 1, kK (.istore_n 3) 1 3, kV (.iconst 1) 1 1, kK (.istore 4) 2 4, none, kK (.iload 4) 2 4, none, kJ (.aload_n 0) 1, kI (.getfield 101) 3 12 38 0 0, none, none, kK (.if_icmp .gt 40) 3 51, none, none, kK (.iload_n 3) 1 3, kK (.ifCond .eq 28) 3 43, none, none, kJ (.aload_n 0) 1, kK (.iload_n 1) 1 1, kK (.iload 4) 2 4, none, kJ .isub 1, kI (.invokevirtual 342) 3 230 2 12 0, none, none, kJ (.aload_n 0) 1, kK (.iload_n 1) 1 1, kK (.iload_n 2) 1 2, kJ .iadd 1, kK (.iload 4) 2 4, none, kJ .isub 1, kI (.invokevirtual 342) 3 230 2 12 0, none, none, kK (.if_icmp .ne 7) 3 43, none, none, kV (.iconst 1) 1 1, kK (.goto 4) 3 44, none, none, kJ (.iconst 0) 1, kK (.istore_n 3) 1 3, kI (.iinc 4 1) 3 4 0 0 1, none, none, kK (.goto (-43)) 3 5, none, none, kV (.iconst 1) 1 1, kK (.istore 4) 2 4, none, kK (.iload 4) 2 4, none, kJ (.aload_n 0) 1, kI (.getfield 98) 3 12 37 0 0, none, none, kK (.if_icmp .gt 40) 3 100, none, none, kK (.iload_n 3) 1 3, kK (.ifCond .eq 28) 3 92, none, none, kJ (.aload_n 0) 1, kK (.iload_n 1) 1 1, kK (.iload 4) 2 4, none, kJ .isub 1, kI (.invokevirtual 345) 3 229 2 12 0, none, none, kJ (.aload_n 0) 1, kK (.iload_n 1) 1 1, kK (.iload_n 2) 1 2, kJ .iadd 1, kK (.iload 4) 2 4, none, kJ .isub 1, kI (.invokevirtual 345) 3 229 2 12 0, none, none, kK (.if_icmp .ne 7) 3 92, none, none, kV (.iconst 1) 1 1, kK (.goto 4) 3 93, none, none, kJ (.iconst 0) 1, kK (.istore_n 3) 1 3, kI (.iinc 4 1) 3 4 0 0 1, none, none, kK (.goto (-43)) 3 54, none, none, kK (.iload_n 3) 1 3, kJ .ireturn 1]
def mK234 : List (Option mI) := [kK (.iload_n 1) 1 1, kJ (.iconst 0) 1, kV (.iconst 1) 1 1, kI (.invokestatic 183) 3 164 3 0 0, none, none, kK (.ifCond .ne 6) 3 12, none, none, kV (.bipush (-102)) 2 (-102), none, kJ .ireturn 1, kJ (.aload_n 0) 1, kI (.invokevirtual 348) 3 231 1 12 0, none, none, kJ (.iconst 0) 1, kK (.istore_n 2) 1 2, kK (.iload_n 2) 1 2, kV (.sipush 200) 3 200, none, none, kK (.if_icmp .ge 45) 3 67, none, none, kV (.iconst 1) 1 1, kK (.istore_n 3) 1 3, kK (.iload_n 2) 1 2, kK (.iload_n 3) 1 3, kJ .iadd 1, kV (.sipush 200) 3 200, none, none, kK (.if_icmp .ge 28) 3 61, none, none, kJ (.aload_n 0) 1, kK (.iload_n 2) 1 2, kK (.iload_n 3) 1 3, kI (.invokevirtual 351) 3 233 3 12 0, none, none, kK (.ifCond .eq 13) 3 55, none, none, kK (.iload_n 1) 1 1, kK (.ifCond .ne 7) 3 53, none, none, kK (.iload_n 2) 1 2, kK (.goto 4) 3 54, none, none, kK (.iload_n 3) 1 3, kJ .ireturn 1, kI (.iinc 3 1) 3 3 0 0 1, none, none, kK (.goto (-31)) 3 27, none, none, kI (.iinc 2 1) 3 2 0 0 1, none, none, kK (.goto (-46)) 3 18, none, none, kV (.iconst (-1)) 1 (-1), kJ .ireturn 1]
def mK235 : List (Option mI) := [kK (.iload_n 1) 1 1, kJ (.iconst 0) 1, kV (.bipush 9) 2 9, none, kI (.invokestatic 183) 3 164 3 0 0, none, none, kK (.ifCond .eq 16) 3 23, none, none, kK (.iload_n 2) 1 2, kV (.sipush (-9999)) 3 (-9999), none, none, kV (.sipush 9999) 3 9999, none, none, kI (.invokestatic 183) 3 164 3 0 0, none, none, kK (.ifCond .ne 6) 3 26, none, none, kV (.bipush (-102)) 2 (-102), none, kJ .ireturn 1, kJ (.aload_n 0) 1, kI (.getfield 355) 3 12 42 0 0, none, none, kV (.bipush 8) 2 8, none, kK (.if_icmp .ne 6) 3 38, none, none, kV (.bipush (-104)) 2 (-104), none, kJ .ireturn 1, kJ (.aload_n 0) 1, kI (.getfield 110) 3 12 43 0 0, none, none, kJ (.aload_n 0) 1, kI (.getfield 355) 3 12 42 0 0, none, none, kK (.iload_n 1) 1 1, kJ .iastore 1, kJ (.aload_n 0) 1, kI (.getfield 113) 3 12 44 0 0, none, none, kJ (.aload_n 0) 1, kI (.getfield 355) 3 12 42 0 0, none, none, kK (.iload_n 2) 1 2, kJ .iastore 1, kJ (.aload_n 0) 1, kJ .dup 1, kI (.getfield 355) 3 12 42 0 0, none, none, kV (.iconst 1) 1 1, kJ .iadd 1, kI (.putfield 355) 3 12 42 0 0, none, none, kJ (.aload_n 0) 1, kI (.getfield 355) 3 12 42 0 0, none, none, kV (.iconst 1) 1 1, kJ .isub 1, kJ .ireturn 1]
def mK236 : List (Option mI) := [kK (.iload_n 1) 1 1, kJ (.iconst 0) 1, kJ (.aload_n 0) 1, kI (.getfield 355) 3 12 42 0 0, none, none, kV (.iconst 1) 1 1, kJ .isub 1, kI (.invokestatic 183) 3 164 3 0 0, none, none, kK (.ifCond .eq 22) 3 33, none, none, kK (.iload_n 2) 1 2, kJ (.iconst 0) 1, kJ (.aload_n 0) 1, kI (.getfield 355) 3 12 42 0 0, none, none, kV (.iconst 1) 1 1, kJ .isub 1, kI (.invokestatic 183) 3 164 3 0 0, none, none, kK (.ifCond .eq 8) 3 33, none, none, kK (.iload_n 1) 1 1, kK (.iload_n 2) 1 2, kK (.if_icmp .ne 6) 3 36, none, none, kV (.bipush (-101)) 2 (-101), none, kJ .ireturn 1, kK (.iload_n 3) 1 3, kJ (.iconst 0) 1, kV (.sipush 999) 3 999, none, none, kI (.invokestatic 183) 3 164 3 0 0, none, none, kK (.ifCond .ne 6) 3 50, none, none, kV (.bipush (-102)) 2 (-102), none, kJ .ireturn 1, kJ (.aload_n 0) 1, kI (.getfield 116) 3 12 45 0 0, none, none, kV (.bipush 8) 2 8, none, kK (.iload_n 1) 1 1, kJ .imul 1, kK (.iload_n 2) 1 2, kJ .iadd 1, kJ .iaload 1, kK (.istore 4) 2 4, none, kJ (.aload_n 0) 1, kI (.getfield 116) 3 12 45 0 0, none, none, kV (.bipush 8) 2 8, none, kK (.iload_n 1) 1 1, kJ .imul 1, kK (.iload_n 2) 1 2, kJ .iadd 1, kK (.iload_n 3) 1 3, kJ .iastore 1, kK (.iload 4) 2 4, none, kJ .ireturn 1]
def mK237_0 : List (Option mI) := [kJ (.iconst 0) 1, kK (.istore_n 2) 1 2, kJ (.aload_n 0) 1, kJ (.iconst 0) 1, kI (.putfield 358) 3 12 76 0 0, none, none, kV (.iconst 1) 1 1, kK (.istore_n 3) 1 3, kK (.iload_n 3) 1 3, kK (.ifCond .eq 164) 3 174, none, none, kJ (.iconst 0) 1, kK (.istore_n 3) 1 3, kJ (.iconst 0) 1, kK (.istore 4) 2 4, none, kK (.iload 4) 2 4, none, kJ (.aload_n 0) 1, kI (.getfield 355) 3 12 42 0 0, none, none, kK (.if_icmp .ge 125) 3 149, none, none, kJ (.aload_n 0) 1, kI (.getfield 110) 3 12 43 0 0, none, none, kK (.iload 4) 2 4, none, kJ .iaload 1, kK (.iload_n 1) 1 1, kJ .imul 1, kJ (.aload_n 0) 1, kI (.getfield 113) 3 12 44 0 0, none, none, kK (.iload 4) 2 4, none, kJ .iaload 1, kJ .iadd 1, kK (.istore 5) 2 5, none, kJ (.iconst 0) 1, kK (.istore 6) 2 6, none, kJ (.iconst 0) 1, kK (.istore 7) 2 7, none, kK (.iload 7) 2 7, none, kJ (.aload_n 0) 1, kI (.getfield 355) 3 12 42 0 0, none, none, kK (.if_icmp .ge 58) 3 116, none, none, kK (.iload 5) 2 5, none, kK (.iload_n 2) 1 2, kK (.iload 7) 2 7, none, kJ .ishr 1, kV (.iconst 1) 1 1, kJ .iand 1, kK (.ifCond .ne 19) 3 88, none, none, kJ (.aload_n 0) 1, kI (.getfield 116) 3 12 45 0 0, none, none, kV (.bipush 8) 2 8, none, kK (.iload 7) 2 7, none, kJ .imul 1, kK (.iload 4) 2 4, none, kJ .iadd 1, kJ .iaload 1, kK (.goto 4) 3 89, none, none, kJ (.iconst 0) 1, kJ .iadd 1, kK (.istore 5) 2 5, none, kK (.iload 6) 2 6, none, kJ (.aload_n 0) 1, kI (.getfield 116) 3 12 45 0 0, none, none, kV (.bipush 8) 2 8, none, kK (.iload 4) 2 4, none, kJ .imul 1, kK (.iload 7) 2 7, none, kJ .iadd 1, kJ .iaload 1, kJ .iadd 1, kK (.istore 6) 2 6, none, kI (.iinc 7 1) 3 7 0 0 1, none, none, kK (.goto (-61)) 3 52, none, none, kK (.iload_n 3) 1 3, kK (.iload_n 2) 1 2, kK (.iload 4) 2 4, none]
def mK237_1 : List (Option mI) := [kJ .ishr 1, kV (.iconst 1) 1 1, kJ .iand 1, kK (.ifCond .ne 17) 3 140, none, none, kK (.iload 5) 2 5, none, kK (.iload 6) 2 6, none, kK (.if_icmp .ge 10) 3 140, none, none, kV (.iconst 1) 1 1, kK (.iload 4) 2 4, none, kJ .ishl 1, kK (.goto 4) 3 141, none, none, kJ (.iconst 0) 1, kJ .ior 1, kK (.istore_n 3) 1 3, kI (.iinc 4 1) 3 4 0 0 1, none, none, kK (.goto (-128)) 3 18, none, none, kK (.iload_n 2) 1 2, kK (.iload_n 3) 1 3, kJ .ior 1, kK (.istore_n 2) 1 2, kJ (.aload_n 0) 1, kJ .dup 1, kI (.getfield 358) 3 12 76 0 0, none, none, kK (.iload_n 3) 1 3, kK (.ifCond .eq 7) 3 166, none, none, kV (.iconst 1) 1 1, kK (.goto 4) 3 167, none, none, kJ (.iconst 0) 1, kJ .iadd 1, kI (.putfield 358) 3 12 76 0 0, none, none, kK (.goto (-162)) 3 9, none, none, kK (.iload_n 2) 1 2, kJ .ireturn 1]
def mK237 : List (Option mI) := mK237_0 ++ (mK237_1)
def mK238 : List (Option mI) := [kK (.iload_n 1) 1 1, kJ (.iconst 0) 1, kV (.sipush 999) 3 999, none, none, kI (.invokestatic 183) 3 164 3 0 0, none, none, kK (.ifCond .eq 12) 3 20, none, none, kK (.iload_n 2) 1 2, kJ (.iconst 0) 1, kV (.iconst 1) 1 1, kI (.invokestatic 183) 3 164 3 0 0, none, none, kK (.ifCond .ne 6) 3 23, none, none, kV (.bipush (-102)) 2 (-102), none, kJ .ireturn 1, kJ (.aload_n 0) 1, kK (.iload_n 1) 1 1, kI (.invokevirtual 361) 3 237 2 12 0, none, none, kK (.istore_n 3) 1 3, kK (.iload_n 2) 1 2, kK (.ifCond .ne 7) 3 37, none, none, kK (.iload_n 3) 1 3, kK (.goto 7) 3 41, none, none, kJ (.aload_n 0) 1, kI (.getfield 358) 3 12 76 0 0, none, none, kJ .ireturn 1]
def mK239 : List (Option mI) := [kK (.iload_n 1) 1 1, kV (.iconst (-1)) 1 (-1), kJ (.aload_n 0) 1, kI (.getfield 355) 3 12 42 0 0, none, none, kV (.iconst 1) 1 1, kJ .isub 1, kI (.invokestatic 183) 3 164 3 0 0, none, none, kK (.ifCond .ne 6) 3 17, none, none, kV (.bipush (-101)) 2 (-101), none, kJ .ireturn 1, kJ (.iconst 0) 1, kK (.istore_n 2) 1 2, kK (.iload_n 2) 1 2, kV (.sipush 1000) 3 1000, none, none, kK (.if_icmp .ge 37) 3 60, none, none, kJ (.aload_n 0) 1, kK (.iload_n 2) 1 2, kI (.invokevirtual 361) 3 237 2 12 0, none, none, kK (.istore_n 3) 1 3, kK (.iload_n 1) 1 1, kV (.iconst (-1)) 1 (-1), kK (.if_icmp .ne 10) 3 44, none, none, kK (.iload_n 3) 1 3, kK (.ifCond .ne 16) 3 54, none, none, kK (.goto 11) 3 52, none, none, kK (.iload_n 3) 1 3, kK (.iload_n 1) 1 1, kJ .ishr 1, kV (.iconst 1) 1 1, kJ .iand 1, kK (.ifCond .ne 5) 3 54, none, none, kK (.iload_n 2) 1 2, kJ .ireturn 1, kI (.iinc 2 1) 3 2 0 0 1, none, none, kK (.goto (-38)) 3 19, none, none, kV (.bipush (-2)) 2 (-2), none, kJ .ireturn 1]
def mK240 : List (Option mI) := [kK (.iload_n 1) 1 1, kV (.iconst 1) 1 1, kV (.bipush 99) 2 99, none, kI (.invokestatic 183) 3 164 3 0 0, none, none, kK (.ifCond .eq 14) 3 21, none, none, kK (.iload_n 2) 1 2, kJ (.iconst 0) 1, kV (.sipush 999) 3 999, none, none, kI (.invokestatic 183) 3 164 3 0 0, none, none, kK (.ifCond .ne 6) 3 24, none, none, kV (.bipush (-102)) 2 (-102), none, kJ .ireturn 1, kJ (.aload_n 0) 1, kI (.getfield 364) 3 12 46 0 0, none, none, kV (.iconst 5) 1 5, kK (.if_icmp .ne 6) 3 35, none, none, kV (.bipush (-104)) 2 (-104), none, kJ .ireturn 1, kJ (.aload_n 0) 1, kI (.getfield 119) 3 12 47 0 0, none, none, kJ (.aload_n 0) 1, kI (.getfield 364) 3 12 46 0 0, none, none, kK (.iload_n 1) 1 1, kJ .iastore 1, kJ (.aload_n 0) 1, kI (.getfield 122) 3 12 48 0 0, none, none, kJ (.aload_n 0) 1, kI (.getfield 364) 3 12 46 0 0, none, none, kK (.iload_n 2) 1 2, kJ .iastore 1, kJ (.aload_n 0) 1, kJ .dup 1, kI (.getfield 364) 3 12 46 0 0, none, none, kV (.iconst 1) 1 1, kJ .iadd 1, kI (.putfield 364) 3 12 46 0 0, none, none, kJ (.aload_n 0) 1, kI (.getfield 364) 3 12 46 0 0, none, none, kV (.iconst 1) 1 1, kJ .isub 1, kJ .ireturn 1]
def mK241_0 : List (Option mI) := [kK (.iload_n 1) 1 1, kJ (.iconst 0) 1, kV (.iconst 3) 1 3, kI (.invokestatic 183) 3 164 3 0 0, none, none, kK (.ifCond .ne 6) 3 12, none, none, kV (.bipush (-101)) 2 (-101), none, kJ .ireturn 1, kK (.iload_n 2) 1 2, kJ (.iconst 0) 1, kK (.iload_n 1) 1 1, kV (.iconst 1) 1 1, kK (.if_icmp .ne 8) 3 24, none, none, kV (.bipush 99) 2 99, none, kK (.goto 16) 3 37, none, none, kK (.iload_n 1) 1 1, kV (.iconst 2) 1 2, kK (.if_icmp .ne 8) 3 34, none, none, kV (.bipush 100) 2 100, none, kK (.goto 6) 3 37, none, none, kV (.sipush 999) 3 999, none, none, kI (.invokestatic 183) 3 164 3 0 0, none, none, kK (.ifCond .ne 6) 3 46, none, none, kV (.bipush (-102)) 2 (-102), none, kJ .ireturn 1, kK (.iload_n 1) 1 1, kK (.ifCond .ne 10) 3 57, none, none, kJ (.aload_n 0) 1, kI (.getfield 125) 3 12 49 0 0, none, none, kK (.goto 31) 3 85, none, none, kK (.iload_n 1) 1 1, kV (.iconst 1) 1 1, kK (.if_icmp .ne 10) 3 69, none, none, kJ (.aload_n 0) 1, kI (.getfield 128) 3 12 50 0 0, none, none, kK (.goto 19) 3 85, none, none, kK (.iload_n 1) 1 1, kV (.iconst 2) 1 2, kK (.if_icmp .ne 10) 3 81, none, none, kJ (.aload_n 0) 1, kI (.getfield 131) 3 12 51 0 0, none, none, kK (.goto 7) 3 85, none, none, kJ (.aload_n 0) 1, kI (.getfield 134) 3 12 52 0 0, none, none, kK (.istore_n 3) 1 3, kJ (.aload_n 0) 1, kK (.iload_n 1) 1 1, kK (.ifCond .ne 7) 3 95, none, none, kK (.iload_n 2) 1 2, kK (.goto 7) 3 99, none, none, kJ (.aload_n 0) 1, kI (.getfield 125) 3 12 49 0 0, none, none, kI (.putfield 125) 3 12 49 0 0, none, none, kJ (.aload_n 0) 1, kK (.iload_n 1) 1 1, kV (.iconst 1) 1 1, kK (.if_icmp .ne 7) 3 112, none, none, kK (.iload_n 2) 1 2, kK (.goto 7) 3 116, none, none, kJ (.aload_n 0) 1, kI (.getfield 128) 3 12 50 0 0, none, none, kI (.putfield 128) 3 12 50 0 0, none, none, kJ (.aload_n 0) 1]
def mK241_1 : List (Option mI) := [kK (.iload_n 1) 1 1, kV (.iconst 2) 1 2, kK (.if_icmp .ne 7) 3 129, none, none, kK (.iload_n 2) 1 2, kK (.goto 7) 3 133, none, none, kJ (.aload_n 0) 1, kI (.getfield 131) 3 12 51 0 0, none, none, kI (.putfield 131) 3 12 51 0 0, none, none, kJ (.aload_n 0) 1, kK (.iload_n 1) 1 1, kV (.iconst 3) 1 3, kK (.if_icmp .ne 7) 3 146, none, none, kK (.iload_n 2) 1 2, kK (.goto 7) 3 150, none, none, kJ (.aload_n 0) 1, kI (.getfield 134) 3 12 52 0 0, none, none, kI (.putfield 134) 3 12 52 0 0, none, none, kK (.iload_n 3) 1 3, kJ .ireturn 1]
def mK241 : List (Option mI) := mK241_0 ++ (mK241_1)
def mK242 : List (Option mI) := [kJ (.iconst 0) 1, kK (.istore_n 2) 1 2, kJ (.iconst 0) 1, kK (.istore_n 3) 1 3, kK (.iload_n 3) 1 3, kJ (.aload_n 0) 1, kI (.getfield 364) 3 12 46 0 0, none, none, kK (.if_icmp .ge 31) 3 40, none, none, kK (.iload_n 2) 1 2, kK (.iload_n 1) 1 1, kK (.iload_n 3) 1 3, kJ .ishr 1, kV (.iconst 1) 1 1, kJ .iand 1, kV (.iconst 1) 1 1, kK (.if_icmp .ne 12) 3 31, none, none, kJ (.aload_n 0) 1, kI (.getfield 119) 3 12 47 0 0, none, none, kK (.iload_n 3) 1 3, kJ .iaload 1, kK (.goto 4) 3 32, none, none, kJ (.iconst 0) 1, kJ .iadd 1, kK (.istore_n 2) 1 2, kI (.iinc 3 1) 3 3 0 0 1, none, none, kK (.goto (-33)) 3 4, none, none, kK (.iload_n 2) 1 2, kJ .ireturn 1]
def mK243 : List (Option mI) := [kJ (.aload_n 0) 1, kI (.getfield 125) 3 12 49 0 0, none, none, kJ .i2l 1, kJ (.aload_n 0) 1, kI (.getfield 128) 3 12 50 0 0, none, none, kJ .i2l 1, kJ (.aload_n 0) 1, kK (.iload_n 2) 1 2, kI (.invokevirtual 367) 3 242 2 12 0, none, none, kJ .i2l 1, kJ .lmul 1, kJ .ladd 1, kK (.lstore_n 3) 1 3, kK (.iload_n 2) 1 2, kK (.iload_n 1) 1 1, kJ .ishr 1, kV (.iconst 1) 1 1, kJ .iand 1, kV (.iconst 1) 1 1, kK (.if_icmp .ne 7) 3 32, none, none, kV (.iconst 1) 1 1, kK (.goto 4) 3 33, none, none, kJ (.iconst 0) 1, kK (.istore 5) 2 5, none, kK (.iload 5) 2 5, none, kK (.ifCond .eq 29) 3 66, none, none, kK (.lload_n 3) 1 3, kJ (.aload_n 0) 1, kI (.getfield 122) 3 12 48 0 0, none, none, kK (.iload_n 1) 1 1, kJ .iaload 1, kJ .i2l 1, kJ .lsub 1, kJ (.aload_n 0) 1, kI (.getfield 119) 3 12 47 0 0, none, none, kK (.iload_n 1) 1 1, kJ .iaload 1, kJ .i2l 1, kJ .lmul 1, kJ (.aload_n 0) 1, kI (.getfield 131) 3 12 51 0 0, none, none, kJ .i2l 1, kJ .lmul 1, kK (.goto 30) 3 93, none, none, kK (.lload_n 3) 1 3, kJ (.aload_n 0) 1, kI (.getfield 134) 3 12 52 0 0, none, none, kJ .i2l 1, kJ .lsub 1, kJ (.aload_n 0) 1, kI (.getfield 122) 3 12 48 0 0, none, none, kK (.iload_n 1) 1 1, kJ .iaload 1, kJ .i2l 1, kJ .lsub 1, kJ (.aload_n 0) 1, kI (.getfield 119) 3 12 47 0 0, none, none, kK (.iload_n 1) 1 1, kJ .iaload 1, kJ .i2l 1, kJ .lmul 1, kW (.ldc2_w 370) 3 100, none, none, kJ .lmul 1, kJ .lreturn 1]
def mK244 : List (Option mI) := [kK (.iload_n 1) 1 1, kJ (.iconst 0) 1, kJ (.aload_n 0) 1, kI (.getfield 364) 3 12 46 0 0, none, none, kV (.iconst 1) 1 1, kJ .isub 1, kI (.invokestatic 183) 3 164 3 0 0, none, none, kK (.ifCond .ne 7) 3 18, none, none, kW (.ldc2_w 278) 3 (-1), none, none, kJ .lreturn 1, kK (.iload_n 2) 1 2, kJ (.iconst 0) 1, kV (.iconst 1) 1 1, kJ (.aload_n 0) 1, kI (.getfield 364) 3 12 46 0 0, none, none, kJ .ishl 1, kV (.iconst 1) 1 1, kJ .isub 1, kI (.invokestatic 183) 3 164 3 0 0, none, none, kK (.ifCond .eq 12) 3 43, none, none, kJ (.aload_n 0) 1, kK (.iload_n 1) 1 1, kK (.iload_n 2) 1 2, kI (.invokevirtual 372) 3 243 3 12 0, none, none, kK (.goto 6) 3 46, none, none, kW (.ldc2_w 376) 3 (-2), none, none, kJ .lreturn 1]
def mK245 : List (Option mI) := [kJ (.iconst 0) 1, kK (.istore_n 2) 1 2, kK (.iload_n 2) 1 2, kJ (.aload_n 0) 1, kI (.getfield 364) 3 12 46 0 0, none, none, kK (.if_icmp .ge 31) 3 38, none, none, kJ (.aload_n 0) 1, kK (.iload_n 2) 1 2, kK (.iload_n 1) 1 1, kV (.iconst 1) 1 1, kK (.iload_n 2) 1 2, kJ .ishl 1, kJ .ixor 1, kI (.invokevirtual 372) 3 243 3 12 0, none, none, kJ (.aload_n 0) 1, kK (.iload_n 2) 1 2, kK (.iload_n 1) 1 1, kI (.invokevirtual 372) 3 243 3 12 0, none, none, kJ .lcmp 1, kK (.ifCond .le 5) 3 32, none, none, kJ (.iconst 0) 1, kJ .ireturn 1, kI (.iinc 2 1) 3 2 0 0 1, none, none, kK (.goto (-33)) 3 2, none, none, kV (.iconst 1) 1 1, kJ .ireturn 1]
def mK246 : List (Option mI) := [kK (.iload_n 1) 1 1, kJ (.iconst 0) 1, kV (.iconst 1) 1 1, kI (.invokestatic 183) 3 164 3 0 0, none, none, kK (.ifCond .ne 6) 3 12, none, none, kV (.bipush (-102)) 2 (-102), none, kJ .ireturn 1, kJ (.iconst 0) 1, kK (.istore_n 2) 1 2, kV (.iconst (-1)) 1 (-1), kK (.istore_n 3) 1 3, kJ (.iconst 0) 1, kK (.istore 4) 2 4, none, kK (.iload 4) 2 4, none, kV (.iconst 1) 1 1, kJ (.aload_n 0) 1, kI (.getfield 364) 3 12 46 0 0, none, none, kJ .ishl 1, kK (.if_icmp .ge 47) 3 74, none, none, kJ (.aload_n 0) 1, kK (.iload 4) 2 4, none, kI (.invokevirtual 378) 3 245 2 12 0, none, none, kK (.ifCond .eq 32) 3 68, none, none, kI (.iinc 2 1) 3 2 0 0 1, none, none, kK (.iload_n 3) 1 3, kV (.iconst (-1)) 1 (-1), kK (.if_icmp .eq 17) 3 61, none, none, kJ (.aload_n 0) 1, kK (.iload 4) 2 4, none, kI (.invokevirtual 367) 3 242 2 12 0, none, none, kJ (.aload_n 0) 1, kK (.iload_n 3) 1 3, kI (.invokevirtual 367) 3 242 2 12 0, none, none, kK (.if_icmp .le 8) 3 66, none, none, kK (.iload 4) 2 4, none, kK (.goto 4) 3 67, none, none, kK (.iload_n 3) 1 3, kK (.istore_n 3) 1 3, kI (.iinc 4 1) 3 4 0 0 1, none, none, kK (.goto (-52)) 3 19, none, none, kK (.iload_n 1) 1 1, kK (.ifCond .ne 7) 3 82, none, none, kK (.iload_n 2) 1 2, kK (.goto 4) 3 83, none, none, kK (.iload_n 3) 1 3, kJ .ireturn 1]
def mK247 : List (Option mI) := [kK (.iload_n 1) 1 1, kJ (.iconst 0) 1, kV (.sipush 9999) 3 9999, none, none, kI (.invokestatic 183) 3 164 3 0 0, none, none, kK (.ifCond .ne 6) 3 14, none, none, kV (.bipush (-102)) 2 (-102), none, kJ .ireturn 1, kJ (.aload_n 0) 1, kI (.getfield 381) 3 12 53 0 0, none, none, kV (.bipush 8) 2 8, none, kK (.if_icmp .ne 6) 3 26, none, none, kV (.bipush (-104)) 2 (-104), none, kJ .ireturn 1, kJ (.aload_n 0) 1, kI (.getfield 137) 3 12 54 0 0, none, none, kJ (.aload_n 0) 1, kI (.getfield 381) 3 12 53 0 0, none, none, kK (.iload_n 1) 1 1, kJ .iastore 1, kJ (.aload_n 0) 1, kJ .dup 1, kI (.getfield 381) 3 12 53 0 0, none, none, kV (.iconst 1) 1 1, kJ .iadd 1, kI (.putfield 381) 3 12 53 0 0, none, none, kJ (.aload_n 0) 1, kI (.getfield 381) 3 12 53 0 0, none, none, kV (.iconst 1) 1 1, kJ .isub 1, kJ .ireturn 1]
def mK248 : List (Option mI) := [kK (.iload_n 1) 1 1, kJ (.iconst 0) 1, kJ (.aload_n 0) 1, kI (.getfield 381) 3 12 53 0 0, none, none, kV (.iconst 1) 1 1, kJ .isub 1, kI (.invokestatic 183) 3 164 3 0 0, none, none, kK (.ifCond .eq 12) 3 23, none, none, kK (.iload_n 2) 1 2, kJ (.iconst 0) 1, kV (.iconst 4) 1 4, kI (.invokestatic 183) 3 164 3 0 0, none, none, kK (.ifCond .ne 6) 3 26, none, none, kV (.bipush (-101)) 2 (-101), none, kJ .ireturn 1, kK (.iload_n 3) 1 3, kV (.sipush (-999)) 3 (-999), none, none, kV (.sipush 999) 3 999, none, none, kI (.invokestatic 183) 3 164 3 0 0, none, none, kK (.ifCond .ne 7) 3 43, none, none, kV (.sipush (-1002)) 3 (-1002), none, none, kJ .ireturn 1, kJ (.aload_n 0) 1, kI (.getfield 140) 3 12 55 0 0, none, none, kV (.iconst 5) 1 5, kK (.iload_n 1) 1 1, kJ .imul 1, kK (.iload_n 2) 1 2, kJ .iadd 1, kJ .iaload 1, kK (.istore 4) 2 4, none, kJ (.aload_n 0) 1, kI (.getfield 140) 3 12 55 0 0, none, none, kV (.iconst 5) 1 5, kK (.iload_n 1) 1 1, kJ .imul 1, kK (.iload_n 2) 1 2, kJ .iadd 1, kK (.iload_n 3) 1 3, kJ .iastore 1, kK (.iload 4) 2 4, none, kJ .ireturn 1]
def mK249 : List (Option mI) := [kJ (.iconst 0) 1, kK (.istore_n 3) 1 3, kJ (.iconst 0) 1, kK (.istore 4) 2 4, none, kK (.iload 4) 2 4, none, kK (.iload_n 2) 1 2, kK (.if_icmp .ge 79) 3 87, none, none, kJ (.iconst 0) 1, kK (.istore 5) 2 5, none, kJ (.iconst 0) 1, kK (.istore 6) 2 6, none, kK (.iload 6) 2 6, none, kJ (.aload_n 0) 1, kI (.getfield 381) 3 12 53 0 0, none, none, kK (.if_icmp .ge 40) 3 63, none, none, kK (.iload 5) 2 5, none, kK (.iload_n 1) 1 1, kK (.iload 6) 2 6, none, kJ .ishr 1, kV (.iconst 1) 1 1, kJ .iand 1, kV (.iconst 1) 1 1, kK (.if_icmp .ne 18) 3 53, none, none, kJ (.aload_n 0) 1, kI (.getfield 140) 3 12 55 0 0, none, none, kV (.iconst 5) 1 5, kK (.iload 6) 2 6, none, kJ .imul 1, kK (.iload 4) 2 4, none, kJ .iadd 1, kJ .iaload 1, kK (.goto 4) 3 54, none, none, kJ (.iconst 0) 1, kJ .iadd 1, kK (.istore 5) 2 5, none, kI (.iinc 6 1) 3 6 0 0 1, none, none, kK (.goto (-43)) 3 17, none, none, kK (.iload 4) 2 4, none, kK (.ifCond .eq 9) 3 74, none, none, kK (.iload 5) 2 5, none, kK (.iload_n 3) 1 3, kK (.if_icmp .ge 8) 3 79, none, none, kK (.iload 5) 2 5, none, kK (.goto 4) 3 80, none, none, kK (.iload_n 3) 1 3, kK (.istore_n 3) 1 3, kI (.iinc 4 1) 3 4 0 0 1, none, none, kK (.goto (-79)) 3 5, none, none, kK (.iload_n 3) 1 3, kJ .ireturn 1]
def mK250 : List (Option mI) := [kJ (.iconst 0) 1, kK (.istore_n 2) 1 2, kJ (.iconst 0) 1, kK (.istore_n 3) 1 3, kK (.iload_n 3) 1 3, kJ (.aload_n 0) 1, kI (.getfield 381) 3 12 53 0 0, none, none, kK (.if_icmp .ge 31) 3 40, none, none, kK (.iload_n 2) 1 2, kK (.iload_n 1) 1 1, kK (.iload_n 3) 1 3, kJ .ishr 1, kV (.iconst 1) 1 1, kJ .iand 1, kV (.iconst 1) 1 1, kK (.if_icmp .ne 12) 3 31, none, none, kJ (.aload_n 0) 1, kI (.getfield 137) 3 12 54 0 0, none, none, kK (.iload_n 3) 1 3, kJ .iaload 1, kK (.goto 4) 3 32, none, none, kJ (.iconst 0) 1, kJ .iadd 1, kK (.istore_n 2) 1 2, kI (.iinc 3 1) 3 3 0 0 1, none, none, kK (.goto (-33)) 3 4, none, none, kK (.iload_n 2) 1 2, kJ .ireturn 1]
def mK251_0 : List (Option mI) := [kK (.iload_n 1) 1 1, kJ (.iconst 0) 1, kV (.ldc_w 384) 3 99999, none, none, kI (.invokestatic 183) 3 164 3 0 0, none, none, kK (.ifCond .eq 21) 3 29, none, none, kK (.iload_n 2) 1 2, kV (.iconst 1) 1 1, kV (.iconst 5) 1 5, kI (.invokestatic 183) 3 164 3 0 0, none, none, kK (.ifCond .eq 12) 3 29, none, none, kK (.iload_n 3) 1 3, kJ (.iconst 0) 1, kV (.iconst 2) 1 2, kI (.invokestatic 183) 3 164 3 0 0, none, none, kK (.ifCond .ne 7) 3 33, none, none, kV (.sipush (-10002)) 3 (-10002), none, none, kJ .ireturn 1, kJ (.iconst 0) 1, kK (.istore 4) 2 4, none, kV (.iconst 1) 1 1, kK (.istore 5) 2 5, none, kK (.iload 5) 2 5, none, kV (.iconst 1) 1 1, kJ (.aload_n 0) 1, kI (.getfield 381) 3 12 53 0 0, none, none, kJ .ishl 1, kK (.if_icmp .ge 70) 3 117, none, none, kJ (.aload_n 0) 1, kK (.iload 5) 2 5, none, kI (.invokevirtual 385) 3 250 2 12 0, none, none, kK (.iload_n 1) 1 1, kK (.if_icmp .gt 54) 3 111, none, none, kJ (.aload_n 0) 1, kK (.iload 5) 2 5, none, kK (.iload_n 2) 1 2, kI (.invokevirtual 388) 3 249 3 12 0, none, none, kJ (.aload_n 0) 1, kK (.iload 4) 2 4, none, kK (.iload_n 2) 1 2, kI (.invokevirtual 388) 3 249 3 12 0, none, none, kJ .isub 1, kK (.istore 6) 2 6, none, kK (.iload 6) 2 6, none, kK (.ifCond .gt 23) 3 102, none, none, kK (.iload 6) 2 6, none, kK (.ifCond .ne 23) 3 107, none, none, kJ (.aload_n 0) 1, kK (.iload 5) 2 5, none, kI (.invokevirtual 385) 3 250 2 12 0, none, none, kJ (.aload_n 0) 1, kK (.iload 4) 2 4, none, kI (.invokevirtual 385) 3 250 2 12 0, none, none, kK (.if_icmp .ge 8) 3 107, none, none, kK (.iload 5) 2 5, none, kK (.goto 5) 3 109, none, none, kK (.iload 4) 2 4, none, kK (.istore 4) 2 4, none, kI (.iinc 5 1) 3 5 0 0 1, none, none, kK (.goto (-75)) 3 39, none, none, kK (.iload_n 3) 1 3, kK (.ifCond .ne 8) 3 126, none]
def mK251_1 : List (Option mI) := [none, kK (.iload 4) 2 4, none, kK (.goto 24) 3 147, none, none, kK (.iload_n 3) 1 3, kV (.iconst 1) 1 1, kK (.if_icmp .ne 13) 3 141, none, none, kJ (.aload_n 0) 1, kK (.iload 4) 2 4, none, kK (.iload_n 2) 1 2, kI (.invokevirtual 388) 3 249 3 12 0, none, none, kK (.goto 9) 3 147, none, none, kJ (.aload_n 0) 1, kK (.iload 4) 2 4, none, kI (.invokevirtual 385) 3 250 2 12 0, none, none, kJ .ireturn 1]
def mK251 : List (Option mI) := mK251_0 ++ (mK251_1)
def mK252_0 : List (Option mI) := [kK (.iload_n 1) 1 1, kS (.tableswitch 132 0 12 #[67, 72, 77, 82, 87, 92, 97, 102, 107, 112, 117, 122, 127]) 67 133 [(0, 68), (1, 73), (2, 78), (3, 83), (4, 88), (5, 93), (6, 98), (7, 103), (8, 108), (9, 113), (10, 118), (11, 123), (12, 128)], none, none, none, none, none, none, none, none, none, none, none, none, none, none, none, none, none, none, none, none, none, none, none, none, none, none, none, none, none, none, none, none, none, none, none, none, none, none, none, none, none, none, none, none, none, none, none, none, none, none, none, none, none, none, none, none, none, none, none, none, none, none, none, none, none, none, kJ (.aload_n 0) 1, kI (.getfield 190) 3 12 9 0 0, none, none, kJ .ireturn 1, kJ (.aload_n 0) 1, kI (.getfield 187) 3 12 7 0 0, none, none, kJ .ireturn 1, kJ (.aload_n 0) 1, kI (.getfield 197) 3 12 6 0 0, none, none, kJ .ireturn 1, kJ (.aload_n 0) 1, kI (.getfield 204) 3 12 12 0 0, none, none, kJ .ireturn 1, kJ (.aload_n 0) 1, kI (.getfield 265) 3 12 20 0 0, none, none, kJ .ireturn 1, kJ (.aload_n 0) 1, kI (.getfield 297) 3 12 23 0 0, none, none, kJ .ireturn 1, kJ (.aload_n 0) 1, kI (.getfield 310) 3 12 27 0 0, none, none, kJ .ireturn 1, kJ (.aload_n 0) 1, kI (.getfield 326) 3 12 29 0 0, none, none, kJ .ireturn 1, kJ (.aload_n 0) 1, kI (.getfield 339) 3 12 39 0 0, none, none, kJ .ireturn 1, kJ (.aload_n 0) 1, kI (.getfield 355) 3 12 42 0 0, none, none, kJ .ireturn 1, kJ (.aload_n 0) 1, kI (.getfield 364) 3 12 46 0 0]
def mK252_1 : List (Option mI) := [none, none, kJ .ireturn 1, kJ (.aload_n 0) 1, kI (.getfield 381) 3 12 53 0 0, none, none, kJ .ireturn 1, kJ (.aload_n 0) 1, kI (.getfield 249) 3 12 18 0 0, none, none, kJ .ireturn 1, kV (.bipush (-102)) 2 (-102), none, kJ .ireturn 1]
def mK252 : List (Option mI) := mK252_0 ++ (mK252_1)
def mK253 : List (Option mI) := [kJ (.aload_n 0) 1, kK (.iload_n 1) 1 1, kI (.invokevirtual 391) 3 252 2 12 0, none, none, kJ .ireturn 1]
def mK254 : List (Option mI) := [kJ (.aload_n 0) 1, kW (.ldc2_w 394) 3 31, none, none, kJ (.aload_n 0) 1, kI (.getfield 396) 3 12 77 0 0, none, none, kJ .lmul 1, kK (.lload_n 1) 1 1, kJ .ladd 1, kI (.putfield 396) 3 12 77 2 0, none, none, kJ .return_ 1]
def mK255_0 : List (Option mI) := [kJ (.iconst 0) 1, kK (.istore_n 1) 1 1, kK (.iload_n 1) 1 1, kV (.bipush 12) 2 12, none, kK (.if_icmp .ge 49) 3 54, none, none, kJ (.aload_n 0) 1, kJ (.aload_n 0) 1, kK (.getfield 7) 3 12, none, none, kK (.iload_n 1) 1 1, kJ .iaload 1, kJ .i2l 1, kI (.invokevirtual 400) 3 254 2 12 0, none, none, kJ (.aload_n 0) 1, kJ (.aload_n 0) 1, kI (.getfield 13) 3 12 1 0 0, none, none, kK (.iload_n 1) 1 1, kJ .iaload 1, kJ .i2l 1, kI (.invokevirtual 400) 3 254 2 12 0, none, none, kJ (.aload_n 0) 1, kJ (.aload_n 0) 1, kI (.getfield 16) 3 12 2 0 0, none, none, kK (.iload_n 1) 1 1, kJ .baload 1, kK (.ifCond .eq 7) 3 44, none, none, kW (.lconst 1) 1 1, kK (.goto 4) 3 45, none, none, kJ (.lconst 0) 1, kI (.invokevirtual 400) 3 254 2 12 0, none, none, kI (.iinc 1 1) 3 1 0 0 1, none, none, kK (.goto (-49)) 3 2, none, none, kJ (.aload_n 0) 1, kJ (.aload_n 0) 1, kI (.getfield 20) 3 12 3 0 0, none, none, kJ .i2l 1, kI (.invokevirtual 400) 3 254 2 12 0, none, none, kJ (.aload_n 0) 1, kJ (.aload_n 0) 1, kI (.getfield 24) 3 12 4 0 0, none, none, kJ .i2l 1, kI (.invokevirtual 400) 3 254 2 12 0, none, none, kJ (.aload_n 0) 1, kJ (.aload_n 0) 1, kI (.getfield 27) 3 12 5 0 0, none, none, kJ .i2l 1, kI (.invokevirtual 400) 3 254 2 12 0, none, none, kJ (.iconst 0) 1, kK (.istore_n 1) 1 1, kK (.iload_n 1) 1 1, kV (.sipush 1200) 3 1200, none, none, kK (.if_icmp .gt 19) 3 106, none, none, kJ (.aload_n 0) 1, kJ (.aload_n 0) 1, kK (.iload_n 1) 1 1, kI (.invokevirtual 200) 3 174 2 12 0, none, none, kJ .i2l 1, kI (.invokevirtual 400) 3 254 2 12 0, none, none, kI (.iinc 1 100) 3 1 0 0 100, none, none, kK (.goto (-20)) 3 83, none, none, kJ (.iconst 0) 1, kK (.istore_n 1) 1 1, kK (.iload_n 1) 1 1, kJ (.aload_n 0) 1, kI (.getfield 204) 3 12 12 0 0, none, none, kK (.if_icmp .ge 34) 3 147, none, none, kJ (.iconst 0) 1, kK (.istore_n 2) 1 2, kK (.iload_n 2) 1 2, kV (.bipush 9) 2 9]
def mK255_1 : List (Option mI) := [none, kK (.if_icmp .ge 20) 3 141, none, none, kJ (.aload_n 0) 1, kJ (.aload_n 0) 1, kK (.iload_n 1) 1 1, kK (.iload_n 2) 1 2, kI (.invokevirtual 244) 3 188 3 12 0, none, none, kJ .i2l 1, kI (.invokevirtual 400) 3 254 2 12 0, none, none, kI (.iinc 2 1) 3 2 0 0 1, none, none, kK (.goto (-20)) 3 118, none, none, kI (.iinc 1 1) 3 1 0 0 1, none, none, kK (.goto (-36)) 3 108, none, none, kJ (.iconst 0) 1, kK (.istore_n 1) 1 1, kK (.iload_n 1) 1 1, kJ (.aload_n 0) 1, kI (.getfield 265) 3 12 20 0 0, none, none, kK (.if_icmp .ge 47) 3 201, none, none, kJ (.iconst 0) 1, kK (.istore_n 2) 1 2, kK (.iload_n 2) 1 2, kJ (.aload_n 0) 1, kI (.getfield 204) 3 12 12 0 0, none, none, kK (.if_icmp .ge 31) 3 195, none, none, kJ (.aload_n 0) 1, kJ (.aload_n 0) 1, kK (.iload_n 1) 1 1, kK (.iload_n 2) 1 2, kJ (.iconst 0) 1, kI (.invokevirtual 291) 3 201 4 12 0, none, none, kI (.invokevirtual 400) 3 254 2 12 0, none, none, kJ (.aload_n 0) 1, kJ (.aload_n 0) 1, kK (.iload_n 1) 1 1, kK (.iload_n 2) 1 2, kV (.iconst 1) 1 1, kI (.invokevirtual 291) 3 201 4 12 0, none, none, kI (.invokevirtual 400) 3 254 2 12 0, none, none, kI (.iinc 2 1) 3 2 0 0 1, none, none, kK (.goto (-33)) 3 159, none, none, kI (.iinc 1 1) 3 1 0 0 1, none, none, kK (.goto (-49)) 3 149, none, none, kJ (.aload_n 0) 1, kJ (.aload_n 0) 1, kI (.getfield 71) 3 12 26 0 0, none, none, kJ .i2l 1, kI (.invokevirtual 400) 3 254 2 12 0, none, none, kJ (.iconst 0) 1, kK (.istore_n 1) 1 1, kK (.iload_n 1) 1 1, kJ (.aload_n 0) 1, kI (.getfield 297) 3 12 23 0 0, none, none, kK (.if_icmp .ge 31) 3 248, none, none, kJ (.aload_n 0) 1, kJ (.aload_n 0) 1, kI (.getfield 65) 3 12 24 0 0, none, none, kK (.iload_n 1) 1 1, kJ .iaload 1, kJ .i2l 1, kI (.invokevirtual 400) 3 254 2 12 0, none, none, kJ (.aload_n 0) 1, kJ (.aload_n 0) 1, kI (.getfield 68) 3 12 25 0 0, none, none, kK (.iload_n 1) 1 1, kJ .iaload 1, kJ .i2l 1, kI (.invokevirtual 400) 3 254 2 12 0]
def mK255_2 : List (Option mI) := [none, none, kI (.iinc 1 1) 3 1 0 0 1, none, none, kK (.goto (-33)) 3 212, none, none, kJ .return_ 1]
def mK255 : List (Option mI) := mK255_0 ++ (mK255_1 ++ (mK255_2))
def mK256_0 : List (Option mI) := [kJ (.iconst 0) 1, kK (.istore_n 1) 1 1, kK (.iload_n 1) 1 1, kJ (.aload_n 0) 1, kI (.getfield 310) 3 12 27 0 0, none, none, kK (.if_icmp .ge 20) 3 27, none, none, kJ (.aload_n 0) 1, kJ (.aload_n 0) 1, kI (.getfield 74) 3 12 28 0 0, none, none, kK (.iload_n 1) 1 1, kJ .iaload 1, kJ .i2l 1, kI (.invokevirtual 400) 3 254 2 12 0, none, none, kI (.iinc 1 1) 3 1 0 0 1, none, none, kK (.goto (-22)) 3 2, none, none, kJ (.iconst 0) 1, kK (.istore_n 1) 1 1, kK (.iload_n 1) 1 1, kJ (.aload_n 0) 1, kI (.getfield 326) 3 12 29 0 0, none, none, kK (.if_icmp .ge 59) 3 93, none, none, kJ (.aload_n 0) 1, kJ (.aload_n 0) 1, kI (.getfield 77) 3 12 30 0 0, none, none, kK (.iload_n 1) 1 1, kJ .iaload 1, kJ .i2l 1, kI (.invokevirtual 400) 3 254 2 12 0, none, none, kJ (.aload_n 0) 1, kJ (.aload_n 0) 1, kI (.getfield 80) 3 12 31 0 0, none, none, kK (.iload_n 1) 1 1, kJ .iaload 1, kJ .i2l 1, kI (.invokevirtual 400) 3 254 2 12 0, none, none, kJ (.iconst 0) 1, kK (.istore_n 2) 1 2, kK (.iload_n 2) 1 2, kV (.iconst 4) 1 4, kK (.if_icmp .ge 24) 3 87, none, none, kJ (.aload_n 0) 1, kJ (.aload_n 0) 1, kI (.getfield 83) 3 12 32 0 0, none, none, kV (.iconst 4) 1 4, kK (.iload_n 1) 1 1, kJ .imul 1, kK (.iload_n 2) 1 2, kJ .iadd 1, kJ .iaload 1, kJ .i2l 1, kI (.invokevirtual 400) 3 254 2 12 0, none, none, kI (.iinc 2 1) 3 2 0 0 1, none, none, kK (.goto (-23)) 3 61, none, none, kI (.iinc 1 1) 3 1 0 0 1, none, none, kK (.goto (-61)) 3 29, none, none, kJ (.iconst 0) 1, kK (.istore_n 1) 1 1, kK (.iload_n 1) 1 1, kV (.iconst 4) 1 4, kK (.if_icmp .ge 20) 3 117, none, none, kJ (.aload_n 0) 1, kJ (.aload_n 0) 1, kI (.getfield 86) 3 12 33 0 0, none, none, kK (.iload_n 1) 1 1, kJ .iaload 1, kJ .i2l 1, kI (.invokevirtual 400) 3 254 2 12 0, none, none, kI (.iinc 1 1) 3 1 0 0 1, none, none, kK (.goto (-19)) 3 95, none, none, kJ (.aload_n 0) 1, kJ (.aload_n 0) 1, kI (.getfield 89) 3 12 34 0 0]
def mK256_1 : List (Option mI) := [none, none, kJ .i2l 1, kI (.invokevirtual 400) 3 254 2 12 0, none, none, kJ (.aload_n 0) 1, kJ (.aload_n 0) 1, kI (.getfield 92) 3 12 35 0 0, none, none, kJ .i2l 1, kI (.invokevirtual 400) 3 254 2 12 0, none, none, kJ (.aload_n 0) 1, kJ (.aload_n 0) 1, kI (.getfield 95) 3 12 36 0 0, none, none, kJ .i2l 1, kI (.invokevirtual 400) 3 254 2 12 0, none, none, kJ (.aload_n 0) 1, kJ (.aload_n 0) 1, kI (.getfield 98) 3 12 37 0 0, none, none, kJ .i2l 1, kI (.invokevirtual 400) 3 254 2 12 0, none, none, kJ (.aload_n 0) 1, kJ (.aload_n 0) 1, kI (.getfield 101) 3 12 38 0 0, none, none, kJ .i2l 1, kI (.invokevirtual 400) 3 254 2 12 0, none, none, kJ (.iconst 0) 1, kK (.istore_n 1) 1 1, kK (.iload_n 1) 1 1, kJ (.aload_n 0) 1, kI (.getfield 339) 3 12 39 0 0, none, none, kK (.if_icmp .ge 31) 3 200, none, none, kJ (.aload_n 0) 1, kJ (.aload_n 0) 1, kI (.getfield 104) 3 12 40 0 0, none, none, kK (.iload_n 1) 1 1, kJ .iaload 1, kJ .i2l 1, kI (.invokevirtual 400) 3 254 2 12 0, none, none, kJ (.aload_n 0) 1, kJ (.aload_n 0) 1, kI (.getfield 107) 3 12 41 0 0, none, none, kK (.iload_n 1) 1 1, kJ .iaload 1, kJ .i2l 1, kI (.invokevirtual 400) 3 254 2 12 0, none, none, kI (.iinc 1 1) 3 1 0 0 1, none, none, kK (.goto (-33)) 3 164, none, none, kJ (.iconst 0) 1, kK (.istore_n 1) 1 1, kK (.iload_n 1) 1 1, kJ (.aload_n 0) 1, kI (.getfield 355) 3 12 42 0 0, none, none, kK (.if_icmp .ge 63) 3 270, none, none, kJ (.aload_n 0) 1, kJ (.aload_n 0) 1, kI (.getfield 110) 3 12 43 0 0, none, none, kK (.iload_n 1) 1 1, kJ .iaload 1, kJ .i2l 1, kI (.invokevirtual 400) 3 254 2 12 0, none, none, kJ (.aload_n 0) 1, kJ (.aload_n 0) 1, kI (.getfield 113) 3 12 44 0 0, none, none, kK (.iload_n 1) 1 1, kJ .iaload 1, kJ .i2l 1, kI (.invokevirtual 400) 3 254 2 12 0, none, none, kJ (.iconst 0) 1, kK (.istore_n 2) 1 2, kK (.iload_n 2) 1 2, kJ (.aload_n 0) 1, kI (.getfield 355) 3 12 42 0 0, none, none, kK (.if_icmp .ge 25) 3 264]
def mK256_2 : List (Option mI) := [none, none, kJ (.aload_n 0) 1, kJ (.aload_n 0) 1, kI (.getfield 116) 3 12 45 0 0, none, none, kV (.bipush 8) 2 8, none, kK (.iload_n 1) 1 1, kJ .imul 1, kK (.iload_n 2) 1 2, kJ .iadd 1, kJ .iaload 1, kJ .i2l 1, kI (.invokevirtual 400) 3 254 2 12 0, none, none, kI (.iinc 2 1) 3 2 0 0 1, none, none, kK (.goto (-27)) 3 234, none, none, kI (.iinc 1 1) 3 1 0 0 1, none, none, kK (.goto (-65)) 3 202, none, none, kJ .return_ 1]
def mK256 : List (Option mI) := mK256_0 ++ (mK256_1 ++ (mK256_2))
def mK257_0 : List (Option mI) := [kJ (.aload_n 0) 1, kW (.ldc2_w 404) 3 257, none, none, kI (.putfield 396) 3 12 77 2 0, none, none, kJ (.aload_n 0) 1, kI (.invokevirtual 406) 3 255 1 12 0, none, none, kJ (.aload_n 0) 1, kI (.invokevirtual 409) 3 256 1 12 0, none, none, kJ (.iconst 0) 1, kK (.istore_n 1) 1 1, kK (.iload_n 1) 1 1, kJ (.aload_n 0) 1, kI (.getfield 364) 3 12 46 0 0, none, none, kK (.if_icmp .ge 31) 3 53, none, none, kJ (.aload_n 0) 1, kJ (.aload_n 0) 1, kI (.getfield 119) 3 12 47 0 0, none, none, kK (.iload_n 1) 1 1, kJ .iaload 1, kJ .i2l 1, kI (.invokevirtual 400) 3 254 2 12 0, none, none, kJ (.aload_n 0) 1, kJ (.aload_n 0) 1, kI (.getfield 122) 3 12 48 0 0, none, none, kK (.iload_n 1) 1 1, kJ .iaload 1, kJ .i2l 1, kI (.invokevirtual 400) 3 254 2 12 0, none, none, kI (.iinc 1 1) 3 1 0 0 1, none, none, kK (.goto (-33)) 3 17, none, none, kJ (.aload_n 0) 1, kJ (.aload_n 0) 1, kI (.getfield 125) 3 12 49 0 0, none, none, kJ .i2l 1, kI (.invokevirtual 400) 3 254 2 12 0, none, none, kJ (.aload_n 0) 1, kJ (.aload_n 0) 1, kI (.getfield 128) 3 12 50 0 0, none, none, kJ .i2l 1, kI (.invokevirtual 400) 3 254 2 12 0, none, none, kJ (.aload_n 0) 1, kJ (.aload_n 0) 1, kI (.getfield 131) 3 12 51 0 0, none, none, kJ .i2l 1, kI (.invokevirtual 400) 3 254 2 12 0, none, none, kJ (.aload_n 0) 1, kJ (.aload_n 0) 1, kI (.getfield 134) 3 12 52 0 0, none, none, kJ .i2l 1, kI (.invokevirtual 400) 3 254 2 12 0, none, none, kJ (.iconst 0) 1, kK (.istore_n 1) 1 1, kK (.iload_n 1) 1 1, kJ (.aload_n 0) 1, kI (.getfield 381) 3 12 53 0 0, none, none, kK (.if_icmp .ge 48) 3 144, none, none, kJ (.aload_n 0) 1, kJ (.aload_n 0) 1, kI (.getfield 137) 3 12 54 0 0, none, none, kK (.iload_n 1) 1 1, kJ .iaload 1, kJ .i2l 1, kI (.invokevirtual 400) 3 254 2 12 0, none, none, kJ (.iconst 0) 1, kK (.istore_n 2) 1 2, kK (.iload_n 2) 1 2, kV (.iconst 5) 1 5, kK (.if_icmp .ge 24) 3 138, none, none, kJ (.aload_n 0) 1, kJ (.aload_n 0) 1, kI (.getfield 140) 3 12 55 0 0]
def mK257_1 : List (Option mI) := [none, none, kV (.iconst 5) 1 5, kK (.iload_n 1) 1 1, kJ .imul 1, kK (.iload_n 2) 1 2, kJ .iadd 1, kJ .iaload 1, kJ .i2l 1, kI (.invokevirtual 400) 3 254 2 12 0, none, none, kI (.iinc 2 1) 3 2 0 0 1, none, none, kK (.goto (-23)) 3 112, none, none, kI (.iinc 1 1) 3 1 0 0 1, none, none, kK (.goto (-50)) 3 91, none, none, kJ (.iconst 0) 1, kK (.istore_n 1) 1 1, kK (.iload_n 1) 1 1, kJ (.aload_n 0) 1, kI (.getfield 249) 3 12 18 0 0, none, none, kK (.if_icmp .ge 20) 3 171, none, none, kJ (.aload_n 0) 1, kJ (.aload_n 0) 1, kI (.getfield 55) 3 12 19 0 0, none, none, kK (.iload_n 1) 1 1, kJ .baload 1, kJ .i2l 1, kI (.invokevirtual 400) 3 254 2 12 0, none, none, kI (.iinc 1 1) 3 1 0 0 1, none, none, kK (.goto (-22)) 3 146, none, none, kJ (.iconst 0) 1, kK (.istore_n 1) 1 1, kK (.iload_n 1) 1 1, kV (.bipush 13) 2 13, none, kK (.if_icmp .ge 19) 3 195, none, none, kJ (.aload_n 0) 1, kJ (.aload_n 0) 1, kK (.iload_n 1) 1 1, kI (.invokevirtual 391) 3 252 2 12 0, none, none, kJ .i2l 1, kI (.invokevirtual 400) 3 254 2 12 0, none, none, kI (.iinc 1 1) 3 1 0 0 1, none, none, kK (.goto (-19)) 3 173, none, none, kJ (.aload_n 0) 1, kI (.getfield 396) 3 12 77 0 0, none, none, kJ .lreturn 1]
def mK257 : List (Option mI) := mK257_0 ++ (mK257_1)
def mK258 : List (Option mI) := [kJ (.iload_n 0) 1, kJ (.iload_n 0) 1, kV (.iconst 1) 1 1, kJ .iushr 1, kV (.ldc_w 265) 3 1431655765, none, none, kJ .iand 1, kJ .isub 1, kJ (.istore_n 0) 1, kJ (.iload_n 0) 1, kV (.ldc_w 266) 3 858993459, none, none, kJ .iand 1, kJ (.iload_n 0) 1, kV (.iconst 2) 1 2, kJ .iushr 1, kV (.ldc_w 266) 3 858993459, none, none, kJ .iand 1, kJ .iadd 1, kJ (.istore_n 0) 1, kJ (.iload_n 0) 1, kJ (.iload_n 0) 1, kV (.iconst 4) 1 4, kJ .iushr 1, kJ .iadd 1, kV (.ldc_w 267) 3 252645135, none, none, kJ .iand 1, kJ (.istore_n 0) 1, kJ (.iload_n 0) 1, kJ (.iload_n 0) 1, kV (.bipush 8) 2 8, none, kJ .iushr 1, kJ .iadd 1, kJ (.istore_n 0) 1, kJ (.iload_n 0) 1, kJ (.iload_n 0) 1, kV (.bipush 16) 2 16, none, kJ .iushr 1, kJ .iadd 1, kJ (.istore_n 0) 1, kJ (.iload_n 0) 1, kV (.bipush 63) 2 63, none, kJ .iand 1, kJ .ireturn 1]
def mK259 : List (Option mI) := [kJ (.iload_n 0) 1, kK (.iload_n 1) 1 1, kJ .idiv 1, kK (.istore_n 2) 1 2, kJ (.iload_n 0) 1, kK (.iload_n 1) 1 1, kJ .ixor 1, kK (.ifCond .ge 14) 3 21, none, none, kK (.iload_n 2) 1 2, kK (.iload_n 1) 1 1, kJ .imul 1, kJ (.iload_n 0) 1, kK (.if_icmp .eq 7) 3 21, none, none, kK (.iload_n 2) 1 2, kV (.iconst 1) 1 1, kJ .isub 1, kJ .ireturn 1, kK (.iload_n 2) 1 2, kJ .ireturn 1]
def mK260 : List (Option mI) := [kJ (.iload_n 0) 1, kK (.ifCond .ge 8) 3 9, none, none, kJ (.iload_n 0) 1, kJ .ineg 1, kK (.goto 4) 3 10, none, none, kJ (.iload_n 0) 1, kJ .ireturn 1]
def mK261 : List (Option mI) := [kJ (.iload_n 0) 1, kK (.iload_n 1) 1 1, kK (.if_icmp .lt 7) 3 9, none, none, kJ (.iload_n 0) 1, kK (.goto 4) 3 10, none, none, kK (.iload_n 1) 1 1, kJ .ireturn 1]
def mK262 : List (Option mI) := [kJ (.iload_n 0) 1, kK (.iload_n 1) 1 1, kK (.if_icmp .gt 7) 3 9, none, none, kJ (.iload_n 0) 1, kK (.goto 4) 3 10, none, none, kK (.iload_n 1) 1 1, kJ .ireturn 1]
def mK263 : List (Option mI) := [kJ (.iconst 0) 1, kK (.istore_n 2) 1 2, kJ (.aload_n 0) 1, kJ .arraylength 1, kK (.istore_n 3) 1 3, kK (.iload_n 2) 1 2, kK (.iload_n 3) 1 3, kK (.if_icmp .ge 13) 3 20, none, none, kJ (.aload_n 0) 1, kK (.iload_n 2) 1 2, kK (.iload_n 1) 1 1, kJ .iastore 1, kI (.iinc 2 1) 3 2 0 0 1, none, none, kK (.goto (-12)) 3 5, none, none, kJ .return_ 1]
def mK264_0 : List (Option mI) := [kI (.new 7) 3 11 12 0 0, none, none, kJ .dup 1, kI (.invokespecial 9) 3 101 1 0 0, none, none, kK (.astore_n 1) 1 1, kI (.new 10) 3 12 78 0 0, none, none, kJ .dup 1, kI (.invokespecial 12) 3 163 1 0 0, none, none, kK (.astore_n 2) 1 2, kJ (.iconst 0) 1, kK (.istore_n 3) 1 3, kK (.iload_n 3) 1 3, kJ (.aload_n 0) 1, kJ .arraylength 1, kV (.iconst 4) 1 4, kJ .isub 1, kK (.if_icmp .gt 1770) 3 1793, none, none, kJ (.aload_n 0) 1, kK (.iload_n 3) 1 3, kJ .iaload 1, kV (.bipush 63) 2 63, none, kJ .iand 1, kS (.tableswitch 1755 0 49 #[216, 249, 282, 305, 338, 387, 420, 443, 466, 489, 522, 555, 588, 621, 654, 707, 720, 733, 746, 779, 823, 856, 879, 912, 935, 968, 1011, 1034, 1077, 1110, 1143, 1186, 1209, 1232, 1265, 1298, 1331, 1354, 1387, 1430, 1463, 1486, 1519, 1552, 1586, 1609, 1632, 1675, 1718, 1741]) 216 1787 [(0, 248), (1, 281), (2, 314), (3, 337), (4, 370), (5, 419), (6, 452), (7, 475), (8, 498), (9, 521), (10, 554), (11, 587), (12, 620), (13, 653), (14, 686), (15, 739), (16, 752), (17, 765), (18, 778), (19, 811), (20, 855), (21, 888), (22, 911), (23, 944), (24, 967), (25, 1000), (26, 1043), (27, 1066), (28, 1109), (29, 1142), (30, 1175), (31, 1218), (32, 1241), (33, 1264), (34, 1297), (35, 1330), (36, 1363), (37, 1386), (38, 1419), (39, 1462), (40, 1495), (41, 1518), (42, 1551), (43, 1584), (44, 1618), (45, 1641), (46, 1664), (47, 1707), (48, 1750), (49, 1773)], none, none, none, none, none, none, none, none, none, none, none, none, none, none, none, none, none, none, none, none, none, none, none, none, none, none, none, none, none, none, none, none, none, none, none, none, none, none, none, none, none, none, none, none, none, none, none, none, none, none, none, none, none, none, none, none, none, none, none, none, none, none, none, none, none, none, none, none, none, none, none, none, none, none, none, none, none, none, none, none, none, none, none, none, none, none, none]
def mK264_1 : List (Option mI) := [none, none, none, none, none, none, none, none, none, none, none, none, none, none, none, none, none, none, none, none, none, none, none, none, none, none, none, none, none, none, none, none, none, none, none, none, none, none, none, none, none, none, none, none, none, none, none, none, none, none, none, none, none, none, none, none, none, none, none, none, none, none, none, none, none, none, none, none, none, none, none, none, none, none, none, none, none, none, none, none, none, none, none, none, none, none, none, none, none, none, none, none, none, none, none, none, none, none, none, none, none, none, none, none, none, none, none, none, none, none, none, none, none, none, none, none, none, none, none, none]
def mK264_2 : List (Option mI) := [none, none, none, none, none, none, none, none, kK (.aload_n 1) 1 1, kJ (.aload_n 0) 1, kK (.iload_n 3) 1 3, kV (.iconst 1) 1 1, kJ .iadd 1, kJ .iaload 1, kJ (.aload_n 0) 1, kK (.iload_n 3) 1 3, kV (.iconst 2) 1 2, kJ .iadd 1, kJ .iaload 1, kI (.invokevirtual 13) 3 108 3 11 0, none, none, kK (.aload_n 2) 1 2, kJ (.aload_n 0) 1, kK (.iload_n 3) 1 3, kV (.iconst 1) 1 1, kJ .iadd 1, kJ .iaload 1, kJ (.aload_n 0) 1, kK (.iload_n 3) 1 3, kV (.iconst 2) 1 2, kJ .iadd 1, kJ .iaload 1, kI (.invokevirtual 17) 3 167 3 12 0, none, none, kK (.if_icmp .eq 1511) 3 1787, none, none, kJ (.iconst 0) 1, kJ .ireturn 1, kK (.aload_n 1) 1 1, kJ (.aload_n 0) 1, kK (.iload_n 3) 1 3, kV (.iconst 1) 1 1, kJ .iadd 1, kJ .iaload 1, kJ (.aload_n 0) 1, kK (.iload_n 3) 1 3, kV (.iconst 2) 1 2, kJ .iadd 1, kJ .iaload 1, kI (.invokevirtual 18) 3 109 3 11 0, none, none, kK (.aload_n 2) 1 2, kJ (.aload_n 0) 1, kK (.iload_n 3) 1 3, kV (.iconst 1) 1 1, kJ .iadd 1, kJ .iaload 1, kJ (.aload_n 0) 1, kK (.iload_n 3) 1 3, kV (.iconst 2) 1 2, kJ .iadd 1, kJ .iaload 1, kI (.invokevirtual 21) 3 168 3 12 0, none, none, kK (.if_icmp .eq 1478) 3 1787, none, none, kJ (.iconst 0) 1, kJ .ireturn 1, kK (.aload_n 1) 1 1, kJ (.aload_n 0) 1, kK (.iload_n 3) 1 3, kV (.iconst 1) 1 1, kJ .iadd 1, kJ .iaload 1, kI (.invokevirtual 22) 3 110 2 11 0, none, none, kK (.aload_n 2) 1 2, kJ (.aload_n 0) 1, kK (.iload_n 3) 1 3, kV (.iconst 1) 1 1, kJ .iadd 1, kJ .iaload 1, kI (.invokevirtual 26) 3 169 2 12 0, none, none, kK (.if_icmp .eq 1455) 3 1787, none, none, kJ (.iconst 0) 1, kJ .ireturn 1, kK (.aload_n 1) 1 1, kJ (.aload_n 0) 1, kK (.iload_n 3) 1 3, kV (.iconst 1) 1 1, kJ .iadd 1, kJ .iaload 1, kJ (.aload_n 0) 1, kK (.iload_n 3) 1 3, kV (.iconst 2) 1 2, kJ .iadd 1, kJ .iaload 1, kI (.invokevirtual 27) 3 111 3 11 0, none, none, kK (.aload_n 2) 1 2, kJ (.aload_n 0) 1, kK (.iload_n 3) 1 3, kV (.iconst 1) 1 1, kJ .iadd 1, kJ .iaload 1, kJ (.aload_n 0) 1, kK (.iload_n 3) 1 3, kV (.iconst 2) 1 2]
def mK264_3 : List (Option mI) := [kJ .iadd 1, kJ .iaload 1, kI (.invokevirtual 30) 3 170 3 12 0, none, none, kK (.if_icmp .eq 1422) 3 1787, none, none, kJ (.iconst 0) 1, kJ .ireturn 1, kK (.aload_n 1) 1 1, kJ (.aload_n 0) 1, kK (.iload_n 3) 1 3, kV (.iconst 1) 1 1, kJ .iadd 1, kJ .iaload 1, kJ (.aload_n 0) 1, kK (.iload_n 3) 1 3, kV (.iconst 2) 1 2, kJ .iadd 1, kJ .iaload 1, kK (.ifCond .eq 7) 3 388, none, none, kV (.iconst 1) 1 1, kK (.goto 4) 3 389, none, none, kJ (.iconst 0) 1, kI (.invokevirtual 31) 3 112 3 11 0, none, none, kK (.aload_n 2) 1 2, kJ (.aload_n 0) 1, kK (.iload_n 3) 1 3, kV (.iconst 1) 1 1, kJ .iadd 1, kJ .iaload 1, kJ (.aload_n 0) 1, kK (.iload_n 3) 1 3, kV (.iconst 2) 1 2, kJ .iadd 1, kJ .iaload 1, kK (.ifCond .eq 7) 3 410, none, none, kV (.iconst 1) 1 1, kK (.goto 4) 3 411, none, none, kJ (.iconst 0) 1, kI (.invokevirtual 35) 3 171 3 12 0, none, none, kK (.if_icmp .eq 1373) 3 1787, none, none, kJ (.iconst 0) 1, kJ .ireturn 1, kK (.aload_n 1) 1 1, kJ (.aload_n 0) 1, kK (.iload_n 3) 1 3, kV (.iconst 1) 1 1, kJ .iadd 1, kJ .iaload 1, kJ (.aload_n 0) 1, kK (.iload_n 3) 1 3, kV (.iconst 2) 1 2, kJ .iadd 1, kJ .iaload 1, kI (.invokevirtual 36) 3 113 3 11 0, none, none, kK (.aload_n 2) 1 2, kJ (.aload_n 0) 1, kK (.iload_n 3) 1 3, kV (.iconst 1) 1 1, kJ .iadd 1, kJ .iaload 1, kJ (.aload_n 0) 1, kK (.iload_n 3) 1 3, kV (.iconst 2) 1 2, kJ .iadd 1, kJ .iaload 1, kI (.invokevirtual 39) 3 172 3 12 0, none, none, kK (.if_icmp .eq 1340) 3 1787, none, none, kJ (.iconst 0) 1, kJ .ireturn 1, kK (.aload_n 1) 1 1, kJ (.aload_n 0) 1, kK (.iload_n 3) 1 3, kV (.iconst 1) 1 1, kJ .iadd 1, kJ .iaload 1, kI (.invokevirtual 40) 3 114 2 11 0, none, none, kK (.aload_n 2) 1 2, kJ (.aload_n 0) 1, kK (.iload_n 3) 1 3, kV (.iconst 1) 1 1, kJ .iadd 1, kJ .iaload 1, kI (.invokevirtual 43) 3 173 2 12 0, none, none, kK (.if_icmp .eq 1317) 3 1787, none, none, kJ (.iconst 0) 1, kJ .ireturn 1, kK (.aload_n 1) 1 1, kJ (.aload_n 0) 1, kK (.iload_n 3) 1 3, kV (.iconst 1) 1 1, kJ .iadd 1]
def mK264_4 : List (Option mI) := [kJ .iaload 1, kI (.invokevirtual 44) 3 115 2 11 0, none, none, kK (.aload_n 2) 1 2, kJ (.aload_n 0) 1, kK (.iload_n 3) 1 3, kV (.iconst 1) 1 1, kJ .iadd 1, kJ .iaload 1, kI (.invokevirtual 47) 3 175 2 12 0, none, none, kK (.if_icmp .eq 1294) 3 1787, none, none, kJ (.iconst 0) 1, kJ .ireturn 1, kK (.aload_n 1) 1 1, kJ (.aload_n 0) 1, kK (.iload_n 3) 1 3, kV (.iconst 1) 1 1, kJ .iadd 1, kJ .iaload 1, kI (.invokevirtual 48) 3 116 2 11 0, none, none, kK (.aload_n 2) 1 2, kJ (.aload_n 0) 1, kK (.iload_n 3) 1 3, kV (.iconst 1) 1 1, kJ .iadd 1, kJ .iaload 1, kI (.invokevirtual 51) 3 181 2 12 0, none, none, kK (.if_icmp .eq 1271) 3 1787, none, none, kJ (.iconst 0) 1, kJ .ireturn 1, kK (.aload_n 1) 1 1, kJ (.aload_n 0) 1, kK (.iload_n 3) 1 3, kV (.iconst 1) 1 1, kJ .iadd 1, kJ .iaload 1, kJ (.aload_n 0) 1, kK (.iload_n 3) 1 3, kV (.iconst 2) 1 2, kJ .iadd 1, kJ .iaload 1, kI (.invokevirtual 52) 3 117 3 11 0, none, none, kK (.aload_n 2) 1 2, kJ (.aload_n 0) 1, kK (.iload_n 3) 1 3, kV (.iconst 1) 1 1, kJ .iadd 1, kJ .iaload 1, kJ (.aload_n 0) 1, kK (.iload_n 3) 1 3, kV (.iconst 2) 1 2, kJ .iadd 1, kJ .iaload 1, kI (.invokevirtual 55) 3 183 3 12 0, none, none, kK (.if_icmp .eq 1238) 3 1787, none, none, kJ (.iconst 0) 1, kJ .ireturn 1, kK (.aload_n 1) 1 1, kJ (.aload_n 0) 1, kK (.iload_n 3) 1 3, kV (.iconst 1) 1 1, kJ .iadd 1, kJ .iaload 1, kJ (.aload_n 0) 1, kK (.iload_n 3) 1 3, kV (.iconst 2) 1 2, kJ .iadd 1, kJ .iaload 1, kI (.invokevirtual 56) 3 118 3 11 0, none, none, kK (.aload_n 2) 1 2, kJ (.aload_n 0) 1, kK (.iload_n 3) 1 3, kV (.iconst 1) 1 1, kJ .iadd 1, kJ .iaload 1, kJ (.aload_n 0) 1, kK (.iload_n 3) 1 3, kV (.iconst 2) 1 2, kJ .iadd 1, kJ .iaload 1, kI (.invokevirtual 59) 3 185 3 12 0, none, none, kK (.if_icmp .eq 1205) 3 1787, none, none, kJ (.iconst 0) 1, kJ .ireturn 1, kK (.aload_n 1) 1 1, kJ (.aload_n 0) 1, kK (.iload_n 3) 1 3, kV (.iconst 1) 1 1, kJ .iadd 1, kJ .iaload 1, kJ (.aload_n 0) 1, kK (.iload_n 3) 1 3, kV (.iconst 2) 1 2, kJ .iadd 1, kJ .iaload 1, kI (.invokevirtual 60) 3 119 3 11 0, none]
def mK264_5 : List (Option mI) := [none, kK (.aload_n 2) 1 2, kJ (.aload_n 0) 1, kK (.iload_n 3) 1 3, kV (.iconst 1) 1 1, kJ .iadd 1, kJ .iaload 1, kJ (.aload_n 0) 1, kK (.iload_n 3) 1 3, kV (.iconst 2) 1 2, kJ .iadd 1, kJ .iaload 1, kI (.invokevirtual 63) 3 186 3 12 0, none, none, kK (.if_icmp .eq 1172) 3 1787, none, none, kJ (.iconst 0) 1, kJ .ireturn 1, kK (.aload_n 1) 1 1, kJ (.aload_n 0) 1, kK (.iload_n 3) 1 3, kV (.iconst 1) 1 1, kJ .iadd 1, kJ .iaload 1, kJ (.aload_n 0) 1, kK (.iload_n 3) 1 3, kV (.iconst 2) 1 2, kJ .iadd 1, kJ .iaload 1, kI (.invokevirtual 64) 3 120 3 11 0, none, none, kK (.aload_n 2) 1 2, kJ (.aload_n 0) 1, kK (.iload_n 3) 1 3, kV (.iconst 1) 1 1, kJ .iadd 1, kJ .iaload 1, kJ (.aload_n 0) 1, kK (.iload_n 3) 1 3, kV (.iconst 2) 1 2, kJ .iadd 1, kJ .iaload 1, kI (.invokevirtual 67) 3 189 3 12 0, none, none, kK (.if_icmp .eq 1139) 3 1787, none, none, kJ (.iconst 0) 1, kJ .ireturn 1, kK (.aload_n 1) 1 1, kJ (.aload_n 0) 1, kK (.iload_n 3) 1 3, kV (.iconst 1) 1 1, kJ .iadd 1, kJ .iaload 1, kJ (.aload_n 0) 1, kK (.iload_n 3) 1 3, kV (.iconst 2) 1 2, kJ .iadd 1, kJ .iaload 1, kI (.invokevirtual 68) 3 121 3 11 0, none, none, kK (.aload_n 2) 1 2, kJ (.aload_n 0) 1, kK (.iload_n 3) 1 3, kV (.iconst 1) 1 1, kJ .iadd 1, kJ .iaload 1, kJ (.aload_n 0) 1, kK (.iload_n 3) 1 3, kV (.iconst 2) 1 2, kJ .iadd 1, kJ .iaload 1, kI (.invokevirtual 71) 3 190 3 12 0, none, none, kK (.if_icmp .eq 1106) 3 1787, none, none, kJ (.iconst 0) 1, kJ .ireturn 1, kK (.aload_n 1) 1 1, kJ (.aload_n 0) 1, kK (.iload_n 3) 1 3, kV (.iconst 1) 1 1, kJ .iadd 1, kJ .iaload 1, kJ .i2l 1, kV (.bipush 32) 2 32, none, kJ .lshl 1, kJ (.aload_n 0) 1, kK (.iload_n 3) 1 3, kV (.iconst 2) 1 2, kJ .iadd 1, kJ .iaload 1, kJ .i2l 1, kW (.ldc2_w 72) 3 4294967295, none, none, kJ .land 1, kJ .lor 1, kI (.invokevirtual 74) 3 122 2 11 0, none, none, kK (.aload_n 2) 1 2, kJ (.aload_n 0) 1, kK (.iload_n 3) 1 3, kV (.iconst 1) 1 1, kJ .iadd 1, kJ .iaload 1, kJ .i2l 1, kV (.bipush 32) 2 32, none, kJ .lshl 1]
def mK264_6 : List (Option mI) := [kJ (.aload_n 0) 1, kK (.iload_n 3) 1 3, kV (.iconst 2) 1 2, kJ .iadd 1, kJ .iaload 1, kJ .i2l 1, kW (.ldc2_w 72) 3 4294967295, none, none, kJ .land 1, kJ .lor 1, kI (.invokevirtual 78) 3 191 2 12 0, none, none, kK (.if_icmp .eq 1053) 3 1787, none, none, kJ (.iconst 0) 1, kJ .ireturn 1, kK (.aload_n 1) 1 1, kI (.invokevirtual 79) 3 123 1 11 0, none, none, kK (.aload_n 2) 1 2, kI (.invokevirtual 83) 3 192 1 12 0, none, none, kK (.if_icmp .eq 1040) 3 1787, none, none, kJ (.iconst 0) 1, kJ .ireturn 1, kK (.aload_n 1) 1 1, kI (.invokevirtual 84) 3 124 1 11 0, none, none, kK (.aload_n 2) 1 2, kI (.invokevirtual 87) 3 195 1 12 0, none, none, kK (.if_icmp .eq 1027) 3 1787, none, none, kJ (.iconst 0) 1, kJ .ireturn 1, kK (.aload_n 1) 1 1, kI (.invokevirtual 88) 3 125 1 11 0, none, none, kK (.aload_n 2) 1 2, kI (.invokevirtual 91) 3 196 1 12 0, none, none, kK (.if_icmp .eq 1014) 3 1787, none, none, kJ (.iconst 0) 1, kJ .ireturn 1, kK (.aload_n 1) 1 1, kJ (.aload_n 0) 1, kK (.iload_n 3) 1 3, kV (.iconst 1) 1 1, kJ .iadd 1, kJ .iaload 1, kJ (.aload_n 0) 1, kK (.iload_n 3) 1 3, kV (.iconst 2) 1 2, kJ .iadd 1, kJ .iaload 1, kI (.invokevirtual 92) 3 126 3 11 0, none, none, kK (.aload_n 2) 1 2, kJ (.aload_n 0) 1, kK (.iload_n 3) 1 3, kV (.iconst 1) 1 1, kJ .iadd 1, kJ .iaload 1, kJ (.aload_n 0) 1, kK (.iload_n 3) 1 3, kV (.iconst 2) 1 2, kJ .iadd 1, kJ .iaload 1, kI (.invokevirtual 95) 3 202 3 12 0, none, none, kK (.if_icmp .eq 981) 3 1787, none, none, kJ (.iconst 0) 1, kJ .ireturn 1, kK (.aload_n 1) 1 1, kJ (.aload_n 0) 1, kK (.iload_n 3) 1 3, kV (.iconst 1) 1 1, kJ .iadd 1, kJ .iaload 1, kJ (.aload_n 0) 1, kK (.iload_n 3) 1 3, kV (.iconst 2) 1 2, kJ .iadd 1, kJ .iaload 1, kJ (.aload_n 0) 1, kK (.iload_n 3) 1 3, kV (.iconst 3) 1 3, kJ .iadd 1, kJ .iaload 1, kI (.invokevirtual 96) 3 127 4 11 0, none, none, kK (.aload_n 2) 1 2, kJ (.aload_n 0) 1, kK (.iload_n 3) 1 3, kV (.iconst 1) 1 1, kJ .iadd 1, kJ .iaload 1, kJ (.aload_n 0) 1, kK (.iload_n 3) 1 3, kV (.iconst 2) 1 2, kJ .iadd 1]
def mK264_7 : List (Option mI) := [kJ .iaload 1, kJ (.aload_n 0) 1, kK (.iload_n 3) 1 3, kV (.iconst 3) 1 3, kJ .iadd 1, kJ .iaload 1, kI (.invokevirtual 100) 3 203 4 12 0, none, none, kJ .lcmp 1, kK (.ifCond .eq 937) 3 1787, none, none, kJ (.iconst 0) 1, kJ .ireturn 1, kK (.aload_n 1) 1 1, kJ (.aload_n 0) 1, kK (.iload_n 3) 1 3, kV (.iconst 1) 1 1, kJ .iadd 1, kJ .iaload 1, kJ (.aload_n 0) 1, kK (.iload_n 3) 1 3, kV (.iconst 2) 1 2, kJ .iadd 1, kJ .iaload 1, kI (.invokevirtual 101) 3 129 3 11 0, none, none, kK (.aload_n 2) 1 2, kJ (.aload_n 0) 1, kK (.iload_n 3) 1 3, kV (.iconst 1) 1 1, kJ .iadd 1, kJ .iaload 1, kJ (.aload_n 0) 1, kK (.iload_n 3) 1 3, kV (.iconst 2) 1 2, kJ .iadd 1, kJ .iaload 1, kI (.invokevirtual 104) 3 205 3 12 0, none, none, kK (.if_icmp .eq 904) 3 1787, none, none, kJ (.iconst 0) 1, kJ .ireturn 1, kK (.aload_n 1) 1 1, kJ (.aload_n 0) 1, kK (.iload_n 3) 1 3, kV (.iconst 1) 1 1, kJ .iadd 1, kJ .iaload 1, kI (.invokevirtual 105) 3 130 2 11 0, none, none, kK (.aload_n 2) 1 2, kJ (.aload_n 0) 1, kK (.iload_n 3) 1 3, kV (.iconst 1) 1 1, kJ .iadd 1, kJ .iaload 1, kI (.invokevirtual 108) 3 206 2 12 0, none, none, kK (.if_icmp .eq 881) 3 1787, none, none, kJ (.iconst 0) 1, kJ .ireturn 1, kK (.aload_n 1) 1 1, kJ (.aload_n 0) 1, kK (.iload_n 3) 1 3, kV (.iconst 1) 1 1, kJ .iadd 1, kJ .iaload 1, kJ (.aload_n 0) 1, kK (.iload_n 3) 1 3, kV (.iconst 2) 1 2, kJ .iadd 1, kJ .iaload 1, kI (.invokevirtual 109) 3 132 3 11 0, none, none, kK (.aload_n 2) 1 2, kJ (.aload_n 0) 1, kK (.iload_n 3) 1 3, kV (.iconst 1) 1 1, kJ .iadd 1, kJ .iaload 1, kJ (.aload_n 0) 1, kK (.iload_n 3) 1 3, kV (.iconst 2) 1 2, kJ .iadd 1, kJ .iaload 1, kI (.invokevirtual 112) 3 207 3 12 0, none, none, kK (.if_icmp .eq 848) 3 1787, none, none, kJ (.iconst 0) 1, kJ .ireturn 1, kK (.aload_n 1) 1 1, kJ (.aload_n 0) 1, kK (.iload_n 3) 1 3, kV (.iconst 1) 1 1, kJ .iadd 1, kJ .iaload 1, kI (.invokevirtual 113) 3 133 2 11 0, none, none, kK (.aload_n 2) 1 2, kJ (.aload_n 0) 1, kK (.iload_n 3) 1 3, kV (.iconst 1) 1 1, kJ .iadd 1, kJ .iaload 1, kI (.invokevirtual 116) 3 208 2 12 0]
def mK264_8 : List (Option mI) := [none, none, kK (.if_icmp .eq 825) 3 1787, none, none, kJ (.iconst 0) 1, kJ .ireturn 1, kK (.aload_n 1) 1 1, kJ (.aload_n 0) 1, kK (.iload_n 3) 1 3, kV (.iconst 1) 1 1, kJ .iadd 1, kJ .iaload 1, kJ (.aload_n 0) 1, kK (.iload_n 3) 1 3, kV (.iconst 2) 1 2, kJ .iadd 1, kJ .iaload 1, kI (.invokevirtual 117) 3 134 3 11 0, none, none, kK (.aload_n 2) 1 2, kJ (.aload_n 0) 1, kK (.iload_n 3) 1 3, kV (.iconst 1) 1 1, kJ .iadd 1, kJ .iaload 1, kJ (.aload_n 0) 1, kK (.iload_n 3) 1 3, kV (.iconst 2) 1 2, kJ .iadd 1, kJ .iaload 1, kI (.invokevirtual 120) 3 212 3 12 0, none, none, kK (.if_icmp .eq 792) 3 1787, none, none, kJ (.iconst 0) 1, kJ .ireturn 1, kK (.aload_n 1) 1 1, kJ (.aload_n 0) 1, kK (.iload_n 3) 1 3, kV (.iconst 1) 1 1, kJ .iadd 1, kJ .iaload 1, kJ (.aload_n 0) 1, kK (.iload_n 3) 1 3, kV (.iconst 2) 1 2, kJ .iadd 1, kJ .iaload 1, kJ (.aload_n 0) 1, kK (.iload_n 3) 1 3, kV (.iconst 3) 1 3, kJ .iadd 1, kJ .iaload 1, kI (.invokevirtual 121) 3 135 4 11 0, none, none, kK (.aload_n 2) 1 2, kJ (.aload_n 0) 1, kK (.iload_n 3) 1 3, kV (.iconst 1) 1 1, kJ .iadd 1, kJ .iaload 1, kJ (.aload_n 0) 1, kK (.iload_n 3) 1 3, kV (.iconst 2) 1 2, kJ .iadd 1, kJ .iaload 1, kJ (.aload_n 0) 1, kK (.iload_n 3) 1 3, kV (.iconst 3) 1 3, kJ .iadd 1, kJ .iaload 1, kI (.invokevirtual 125) 3 213 4 12 0, none, none, kK (.if_icmp .eq 749) 3 1787, none, none, kJ (.iconst 0) 1, kJ .ireturn 1, kK (.aload_n 1) 1 1, kJ (.aload_n 0) 1, kK (.iload_n 3) 1 3, kV (.iconst 1) 1 1, kJ .iadd 1, kJ .iaload 1, kI (.invokevirtual 126) 3 136 2 11 0, none, none, kK (.aload_n 2) 1 2, kJ (.aload_n 0) 1, kK (.iload_n 3) 1 3, kV (.iconst 1) 1 1, kJ .iadd 1, kJ .iaload 1, kI (.invokevirtual 129) 3 214 2 12 0, none, none, kK (.if_icmp .eq 726) 3 1787, none, none, kJ (.iconst 0) 1, kJ .ireturn 1, kK (.aload_n 1) 1 1, kJ (.aload_n 0) 1, kK (.iload_n 3) 1 3, kV (.iconst 1) 1 1, kJ .iadd 1, kJ .iaload 1, kJ (.aload_n 0) 1, kK (.iload_n 3) 1 3, kV (.iconst 2) 1 2, kJ .iadd 1, kJ .iaload 1, kJ (.aload_n 0) 1, kK (.iload_n 3) 1 3, kV (.iconst 3) 1 3]
def mK264_9 : List (Option mI) := [kJ .iadd 1, kJ .iaload 1, kI (.invokevirtual 130) 3 137 4 11 0, none, none, kK (.aload_n 2) 1 2, kJ (.aload_n 0) 1, kK (.iload_n 3) 1 3, kV (.iconst 1) 1 1, kJ .iadd 1, kJ .iaload 1, kJ (.aload_n 0) 1, kK (.iload_n 3) 1 3, kV (.iconst 2) 1 2, kJ .iadd 1, kJ .iaload 1, kJ (.aload_n 0) 1, kK (.iload_n 3) 1 3, kV (.iconst 3) 1 3, kJ .iadd 1, kJ .iaload 1, kI (.invokevirtual 133) 3 218 4 12 0, none, none, kK (.if_icmp .eq 683) 3 1787, none, none, kJ (.iconst 0) 1, kJ .ireturn 1, kK (.aload_n 1) 1 1, kJ (.aload_n 0) 1, kK (.iload_n 3) 1 3, kV (.iconst 1) 1 1, kJ .iadd 1, kJ .iaload 1, kJ (.aload_n 0) 1, kK (.iload_n 3) 1 3, kV (.iconst 2) 1 2, kJ .iadd 1, kJ .iaload 1, kI (.invokevirtual 134) 3 138 3 11 0, none, none, kK (.aload_n 2) 1 2, kJ (.aload_n 0) 1, kK (.iload_n 3) 1 3, kV (.iconst 1) 1 1, kJ .iadd 1, kJ .iaload 1, kJ (.aload_n 0) 1, kK (.iload_n 3) 1 3, kV (.iconst 2) 1 2, kJ .iadd 1, kJ .iaload 1, kI (.invokevirtual 137) 3 220 3 12 0, none, none, kK (.if_icmp .eq 650) 3 1787, none, none, kJ (.iconst 0) 1, kJ .ireturn 1, kK (.aload_n 1) 1 1, kJ (.aload_n 0) 1, kK (.iload_n 3) 1 3, kV (.iconst 1) 1 1, kJ .iadd 1, kJ .iaload 1, kJ (.aload_n 0) 1, kK (.iload_n 3) 1 3, kV (.iconst 2) 1 2, kJ .iadd 1, kJ .iaload 1, kI (.invokevirtual 138) 3 139 3 11 0, none, none, kK (.aload_n 2) 1 2, kJ (.aload_n 0) 1, kK (.iload_n 3) 1 3, kV (.iconst 1) 1 1, kJ .iadd 1, kJ .iaload 1, kJ (.aload_n 0) 1, kK (.iload_n 3) 1 3, kV (.iconst 2) 1 2, kJ .iadd 1, kJ .iaload 1, kI (.invokevirtual 141) 3 221 3 12 0, none, none, kK (.if_icmp .eq 617) 3 1787, none, none, kJ (.iconst 0) 1, kJ .ireturn 1, kK (.aload_n 1) 1 1, kJ (.aload_n 0) 1, kK (.iload_n 3) 1 3, kV (.iconst 1) 1 1, kJ .iadd 1, kJ .iaload 1, kJ (.aload_n 0) 1, kK (.iload_n 3) 1 3, kV (.iconst 2) 1 2, kJ .iadd 1, kJ .iaload 1, kJ (.aload_n 0) 1, kK (.iload_n 3) 1 3, kV (.iconst 3) 1 3, kJ .iadd 1, kJ .iaload 1, kI (.invokevirtual 142) 3 140 4 11 0, none, none, kK (.aload_n 2) 1 2, kJ (.aload_n 0) 1, kK (.iload_n 3) 1 3, kV (.iconst 1) 1 1, kJ .iadd 1, kJ .iaload 1]
def mK264_10 : List (Option mI) := [kJ (.aload_n 0) 1, kK (.iload_n 3) 1 3, kV (.iconst 2) 1 2, kJ .iadd 1, kJ .iaload 1, kJ (.aload_n 0) 1, kK (.iload_n 3) 1 3, kV (.iconst 3) 1 3, kJ .iadd 1, kJ .iaload 1, kI (.invokevirtual 145) 3 222 4 12 0, none, none, kK (.if_icmp .eq 574) 3 1787, none, none, kJ (.iconst 0) 1, kJ .ireturn 1, kK (.aload_n 1) 1 1, kJ (.aload_n 0) 1, kK (.iload_n 3) 1 3, kV (.iconst 1) 1 1, kJ .iadd 1, kJ .iaload 1, kI (.invokevirtual 146) 3 141 2 11 0, none, none, kK (.aload_n 2) 1 2, kJ (.aload_n 0) 1, kK (.iload_n 3) 1 3, kV (.iconst 1) 1 1, kJ .iadd 1, kJ .iaload 1, kI (.invokevirtual 149) 3 223 2 12 0, none, none, kK (.if_icmp .eq 551) 3 1787, none, none, kJ (.iconst 0) 1, kJ .ireturn 1, kK (.aload_n 1) 1 1, kJ (.aload_n 0) 1, kK (.iload_n 3) 1 3, kV (.iconst 1) 1 1, kJ .iadd 1, kJ .iaload 1, kI (.invokevirtual 150) 3 142 2 11 0, none, none, kK (.aload_n 2) 1 2, kJ (.aload_n 0) 1, kK (.iload_n 3) 1 3, kV (.iconst 1) 1 1, kJ .iadd 1, kJ .iaload 1, kI (.invokevirtual 153) 3 226 2 12 0, none, none, kK (.if_icmp .eq 528) 3 1787, none, none, kJ (.iconst 0) 1, kJ .ireturn 1, kK (.aload_n 1) 1 1, kJ (.aload_n 0) 1, kK (.iload_n 3) 1 3, kV (.iconst 1) 1 1, kJ .iadd 1, kJ .iaload 1, kJ (.aload_n 0) 1, kK (.iload_n 3) 1 3, kV (.iconst 2) 1 2, kJ .iadd 1, kJ .iaload 1, kI (.invokevirtual 154) 3 143 3 11 0, none, none, kK (.aload_n 2) 1 2, kJ (.aload_n 0) 1, kK (.iload_n 3) 1 3, kV (.iconst 1) 1 1, kJ .iadd 1, kJ .iaload 1, kJ (.aload_n 0) 1, kK (.iload_n 3) 1 3, kV (.iconst 2) 1 2, kJ .iadd 1, kJ .iaload 1, kI (.invokevirtual 157) 3 227 3 12 0, none, none, kK (.if_icmp .eq 495) 3 1787, none, none, kJ (.iconst 0) 1, kJ .ireturn 1, kK (.aload_n 1) 1 1, kJ (.aload_n 0) 1, kK (.iload_n 3) 1 3, kV (.iconst 1) 1 1, kJ .iadd 1, kJ .iaload 1, kJ (.aload_n 0) 1, kK (.iload_n 3) 1 3, kV (.iconst 2) 1 2, kJ .iadd 1, kJ .iaload 1, kI (.invokevirtual 158) 3 144 3 11 0, none, none, kK (.aload_n 2) 1 2, kJ (.aload_n 0) 1, kK (.iload_n 3) 1 3, kV (.iconst 1) 1 1, kJ .iadd 1, kJ .iaload 1, kJ (.aload_n 0) 1, kK (.iload_n 3) 1 3, kV (.iconst 2) 1 2]
def mK264_11 : List (Option mI) := [kJ .iadd 1, kJ .iaload 1, kI (.invokevirtual 161) 3 228 3 12 0, none, none, kK (.if_icmp .eq 462) 3 1787, none, none, kJ (.iconst 0) 1, kJ .ireturn 1, kK (.aload_n 1) 1 1, kJ (.aload_n 0) 1, kK (.iload_n 3) 1 3, kV (.iconst 1) 1 1, kJ .iadd 1, kJ .iaload 1, kJ (.aload_n 0) 1, kK (.iload_n 3) 1 3, kV (.iconst 2) 1 2, kJ .iadd 1, kJ .iaload 1, kI (.invokevirtual 162) 3 145 3 11 0, none, none, kK (.aload_n 2) 1 2, kJ (.aload_n 0) 1, kK (.iload_n 3) 1 3, kV (.iconst 1) 1 1, kJ .iadd 1, kJ .iaload 1, kJ (.aload_n 0) 1, kK (.iload_n 3) 1 3, kV (.iconst 2) 1 2, kJ .iadd 1, kJ .iaload 1, kI (.invokevirtual 165) 3 232 3 12 0, none, none, kK (.if_icmp .eq 429) 3 1787, none, none, kJ (.iconst 0) 1, kJ .ireturn 1, kK (.aload_n 1) 1 1, kJ (.aload_n 0) 1, kK (.iload_n 3) 1 3, kV (.iconst 1) 1 1, kJ .iadd 1, kJ .iaload 1, kI (.invokevirtual 166) 3 146 2 11 0, none, none, kK (.aload_n 2) 1 2, kJ (.aload_n 0) 1, kK (.iload_n 3) 1 3, kV (.iconst 1) 1 1, kJ .iadd 1, kJ .iaload 1, kI (.invokevirtual 169) 3 234 2 12 0, none, none, kK (.if_icmp .eq 406) 3 1787, none, none, kJ (.iconst 0) 1, kJ .ireturn 1, kK (.aload_n 1) 1 1, kJ (.aload_n 0) 1, kK (.iload_n 3) 1 3, kV (.iconst 1) 1 1, kJ .iadd 1, kJ .iaload 1, kJ (.aload_n 0) 1, kK (.iload_n 3) 1 3, kV (.iconst 2) 1 2, kJ .iadd 1, kJ .iaload 1, kI (.invokevirtual 170) 3 147 3 11 0, none, none, kK (.aload_n 2) 1 2, kJ (.aload_n 0) 1, kK (.iload_n 3) 1 3, kV (.iconst 1) 1 1, kJ .iadd 1, kJ .iaload 1, kJ (.aload_n 0) 1, kK (.iload_n 3) 1 3, kV (.iconst 2) 1 2, kJ .iadd 1, kJ .iaload 1, kI (.invokevirtual 173) 3 235 3 12 0, none, none, kK (.if_icmp .eq 373) 3 1787, none, none, kJ (.iconst 0) 1, kJ .ireturn 1, kK (.aload_n 1) 1 1, kJ (.aload_n 0) 1, kK (.iload_n 3) 1 3, kV (.iconst 1) 1 1, kJ .iadd 1, kJ .iaload 1, kJ (.aload_n 0) 1, kK (.iload_n 3) 1 3, kV (.iconst 2) 1 2, kJ .iadd 1, kJ .iaload 1, kJ (.aload_n 0) 1, kK (.iload_n 3) 1 3, kV (.iconst 3) 1 3, kJ .iadd 1, kJ .iaload 1, kI (.invokevirtual 174) 3 148 4 11 0, none, none, kK (.aload_n 2) 1 2, kJ (.aload_n 0) 1]
def mK264_12 : List (Option mI) := [kK (.iload_n 3) 1 3, kV (.iconst 1) 1 1, kJ .iadd 1, kJ .iaload 1, kJ (.aload_n 0) 1, kK (.iload_n 3) 1 3, kV (.iconst 2) 1 2, kJ .iadd 1, kJ .iaload 1, kJ (.aload_n 0) 1, kK (.iload_n 3) 1 3, kV (.iconst 3) 1 3, kJ .iadd 1, kJ .iaload 1, kI (.invokevirtual 177) 3 236 4 12 0, none, none, kK (.if_icmp .eq 330) 3 1787, none, none, kJ (.iconst 0) 1, kJ .ireturn 1, kK (.aload_n 1) 1 1, kJ (.aload_n 0) 1, kK (.iload_n 3) 1 3, kV (.iconst 1) 1 1, kJ .iadd 1, kJ .iaload 1, kJ (.aload_n 0) 1, kK (.iload_n 3) 1 3, kV (.iconst 2) 1 2, kJ .iadd 1, kJ .iaload 1, kI (.invokevirtual 178) 3 149 3 11 0, none, none, kK (.aload_n 2) 1 2, kJ (.aload_n 0) 1, kK (.iload_n 3) 1 3, kV (.iconst 1) 1 1, kJ .iadd 1, kJ .iaload 1, kJ (.aload_n 0) 1, kK (.iload_n 3) 1 3, kV (.iconst 2) 1 2, kJ .iadd 1, kJ .iaload 1, kI (.invokevirtual 181) 3 238 3 12 0, none, none, kK (.if_icmp .eq 297) 3 1787, none, none, kJ (.iconst 0) 1, kJ .ireturn 1, kK (.aload_n 1) 1 1, kJ (.aload_n 0) 1, kK (.iload_n 3) 1 3, kV (.iconst 1) 1 1, kJ .iadd 1, kJ .iaload 1, kI (.invokevirtual 182) 3 150 2 11 0, none, none, kK (.aload_n 2) 1 2, kJ (.aload_n 0) 1, kK (.iload_n 3) 1 3, kV (.iconst 1) 1 1, kJ .iadd 1, kJ .iaload 1, kI (.invokevirtual 185) 3 239 2 12 0, none, none, kK (.if_icmp .eq 274) 3 1787, none, none, kJ (.iconst 0) 1, kJ .ireturn 1, kK (.aload_n 1) 1 1, kJ (.aload_n 0) 1, kK (.iload_n 3) 1 3, kV (.iconst 1) 1 1, kJ .iadd 1, kJ .iaload 1, kJ (.aload_n 0) 1, kK (.iload_n 3) 1 3, kV (.iconst 2) 1 2, kJ .iadd 1, kJ .iaload 1, kI (.invokevirtual 186) 3 151 3 11 0, none, none, kK (.aload_n 2) 1 2, kJ (.aload_n 0) 1, kK (.iload_n 3) 1 3, kV (.iconst 1) 1 1, kJ .iadd 1, kJ .iaload 1, kJ (.aload_n 0) 1, kK (.iload_n 3) 1 3, kV (.iconst 2) 1 2, kJ .iadd 1, kJ .iaload 1, kI (.invokevirtual 189) 3 240 3 12 0, none, none, kK (.if_icmp .eq 241) 3 1787, none, none, kJ (.iconst 0) 1, kJ .ireturn 1, kK (.aload_n 1) 1 1, kJ (.aload_n 0) 1, kK (.iload_n 3) 1 3, kV (.iconst 1) 1 1, kJ .iadd 1, kJ .iaload 1, kJ (.aload_n 0) 1, kK (.iload_n 3) 1 3, kV (.iconst 2) 1 2]
def mK264_13 : List (Option mI) := [kJ .iadd 1, kJ .iaload 1, kI (.invokevirtual 190) 3 152 3 11 0, none, none, kK (.aload_n 2) 1 2, kJ (.aload_n 0) 1, kK (.iload_n 3) 1 3, kV (.iconst 1) 1 1, kJ .iadd 1, kJ .iaload 1, kJ (.aload_n 0) 1, kK (.iload_n 3) 1 3, kV (.iconst 2) 1 2, kJ .iadd 1, kJ .iaload 1, kI (.invokevirtual 193) 3 241 3 12 0, none, none, kK (.if_icmp .eq 208) 3 1787, none, none, kJ (.iconst 0) 1, kJ .ireturn 1, kK (.aload_n 1) 1 1, kJ (.aload_n 0) 1, kK (.iload_n 3) 1 3, kV (.iconst 1) 1 1, kJ .iadd 1, kJ .iaload 1, kJ (.aload_n 0) 1, kK (.iload_n 3) 1 3, kV (.iconst 2) 1 2, kJ .iadd 1, kJ .iaload 1, kI (.invokevirtual 194) 3 153 3 11 0, none, none, kK (.aload_n 2) 1 2, kJ (.aload_n 0) 1, kK (.iload_n 3) 1 3, kV (.iconst 1) 1 1, kJ .iadd 1, kJ .iaload 1, kJ (.aload_n 0) 1, kK (.iload_n 3) 1 3, kV (.iconst 2) 1 2, kJ .iadd 1, kJ .iaload 1, kI (.invokevirtual 198) 3 244 3 12 0, none, none, kJ .lcmp 1, kK (.ifCond .eq 174) 3 1787, none, none, kJ (.iconst 0) 1, kJ .ireturn 1, kK (.aload_n 1) 1 1, kJ (.aload_n 0) 1, kK (.iload_n 3) 1 3, kV (.iconst 1) 1 1, kJ .iadd 1, kJ .iaload 1, kI (.invokevirtual 199) 3 154 2 11 0, none, none, kK (.aload_n 2) 1 2, kJ (.aload_n 0) 1, kK (.iload_n 3) 1 3, kV (.iconst 1) 1 1, kJ .iadd 1, kJ .iaload 1, kI (.invokevirtual 202) 3 246 2 12 0, none, none, kK (.if_icmp .eq 151) 3 1787, none, none, kJ (.iconst 0) 1, kJ .ireturn 1, kK (.aload_n 1) 1 1, kJ (.aload_n 0) 1, kK (.iload_n 3) 1 3, kV (.iconst 1) 1 1, kJ .iadd 1, kJ .iaload 1, kI (.invokevirtual 203) 3 155 2 11 0, none, none, kK (.aload_n 2) 1 2, kJ (.aload_n 0) 1, kK (.iload_n 3) 1 3, kV (.iconst 1) 1 1, kJ .iadd 1, kJ .iaload 1, kI (.invokevirtual 206) 3 247 2 12 0, none, none, kK (.if_icmp .eq 128) 3 1787, none, none, kJ (.iconst 0) 1, kJ .ireturn 1, kK (.aload_n 1) 1 1, kJ (.aload_n 0) 1, kK (.iload_n 3) 1 3, kV (.iconst 1) 1 1, kJ .iadd 1, kJ .iaload 1, kJ (.aload_n 0) 1, kK (.iload_n 3) 1 3, kV (.iconst 2) 1 2, kJ .iadd 1, kJ .iaload 1, kJ (.aload_n 0) 1, kK (.iload_n 3) 1 3, kV (.iconst 3) 1 3, kJ .iadd 1, kJ .iaload 1]
def mK264_14 : List (Option mI) := [kI (.invokevirtual 207) 3 156 4 11 0, none, none, kK (.aload_n 2) 1 2, kJ (.aload_n 0) 1, kK (.iload_n 3) 1 3, kV (.iconst 1) 1 1, kJ .iadd 1, kJ .iaload 1, kJ (.aload_n 0) 1, kK (.iload_n 3) 1 3, kV (.iconst 2) 1 2, kJ .iadd 1, kJ .iaload 1, kJ (.aload_n 0) 1, kK (.iload_n 3) 1 3, kV (.iconst 3) 1 3, kJ .iadd 1, kJ .iaload 1, kI (.invokevirtual 210) 3 248 4 12 0, none, none, kK (.if_icmp .eq 85) 3 1787, none, none, kJ (.iconst 0) 1, kJ .ireturn 1, kK (.aload_n 1) 1 1, kJ (.aload_n 0) 1, kK (.iload_n 3) 1 3, kV (.iconst 1) 1 1, kJ .iadd 1, kJ .iaload 1, kJ (.aload_n 0) 1, kK (.iload_n 3) 1 3, kV (.iconst 2) 1 2, kJ .iadd 1, kJ .iaload 1, kJ (.aload_n 0) 1, kK (.iload_n 3) 1 3, kV (.iconst 3) 1 3, kJ .iadd 1, kJ .iaload 1, kI (.invokevirtual 211) 3 157 4 11 0, none, none, kK (.aload_n 2) 1 2, kJ (.aload_n 0) 1, kK (.iload_n 3) 1 3, kV (.iconst 1) 1 1, kJ .iadd 1, kJ .iaload 1, kJ (.aload_n 0) 1, kK (.iload_n 3) 1 3, kV (.iconst 2) 1 2, kJ .iadd 1, kJ .iaload 1, kJ (.aload_n 0) 1, kK (.iload_n 3) 1 3, kV (.iconst 3) 1 3, kJ .iadd 1, kJ .iaload 1, kI (.invokevirtual 214) 3 251 4 12 0, none, none, kK (.if_icmp .eq 42) 3 1787, none, none, kJ (.iconst 0) 1, kJ .ireturn 1, kK (.aload_n 1) 1 1, kJ (.aload_n 0) 1, kK (.iload_n 3) 1 3, kV (.iconst 1) 1 1, kJ .iadd 1, kJ .iaload 1, kI (.invokevirtual 215) 3 158 2 11 0, none, none, kK (.aload_n 2) 1 2, kJ (.aload_n 0) 1, kK (.iload_n 3) 1 3, kV (.iconst 1) 1 1, kJ .iadd 1, kJ .iaload 1, kI (.invokevirtual 218) 3 253 2 12 0, none, none, kK (.if_icmp .eq 19) 3 1787, none, none, kJ (.iconst 0) 1, kJ .ireturn 1, kK (.aload_n 1) 1 1, kI (.invokevirtual 219) 3 160 1 11 0, none, none, kK (.aload_n 2) 1 2, kI (.invokevirtual 223) 3 257 1 12 0, none, none, kJ .lcmp 1, kK (.ifCond .eq 5) 3 1787, none, none, kJ (.iconst 0) 1, kJ .ireturn 1, kI (.iinc 3 4) 3 3 0 0 4, none, none, kK (.goto (-1772)) 3 18, none, none, kV (.iconst 1) 1 1, kJ .ireturn 1]
def mK264 : List (Option mI) := mK264_0 ++ (mK264_1 ++ (mK264_2 ++ (mK264_3 ++ (mK264_4 ++ (mK264_5 ++ (mK264_6 ++ (mK264_7 ++ (mK264_8 ++ (mK264_9 ++ (mK264_10 ++ (mK264_11 ++ (mK264_12 ++ (mK264_13 ++ (mK264_14))))))))))))))
def mTabs_0 : List (List (Option mI)) := [mK0, mK1, mK2, mK3, mK4, mK5, mK6, mK7, mK8, mK9, mK10, mK11, mK12, mK13, mK14, mK15, mK16, mK17, mK18, mK19, mK20, mK21, mK22, mK23, mK24, mK25, mK26, mK27, mK28, mK29, mK30, mK31, mK32, mK33, mK34, mK35, mK36, mK37, mK38, mK39, mK40, mK41, mK42, mK43, mK44, mK45, mK46, mK47, mK48, mK49]
def mTabs_1 : List (List (Option mI)) := [mK50, mK51, mK52, mK53, mK54, mK55, mK56, mK57, mK58, mK59, mK60, mK61, mK62, mK63, mK64, mK65, mK66, mK67, mK68, mK69, mK70, mK71, mK72, mK73, mK74, mK75, mK76, mK77, mK78, mK79, mK80, mK81, mK82, mK83, mK84, mK85, mK86, mK87, mK88, mK89, mK90, mK91, mK92, mK93, mK94, mK95, mK96, mK97, mK98, mK99]
def mTabs_2 : List (List (Option mI)) := [mK100, mK101, mK102, mK103, mK104, mK105, mK106, mK107, mK108, mK109, mK110, mK111, mK112, mK113, mK114, mK115, mK116, mK117, mK118, mK119, mK120, mK121, mK122, mK123, mK124, mK125, mK126, mK127, mK128, mK129, mK130, mK131, mK132, mK133, mK134, mK135, mK136, mK137, mK138, mK139, mK140, mK141, mK142, mK143, mK144, mK145, mK146, mK147, mK148, mK149]
def mTabs_3 : List (List (Option mI)) := [mK150, mK151, mK152, mK153, mK154, mK155, mK156, mK157, mK158, mK159, mK160, mK161, mK162, mK163, mK164, mK165, mK166, mK167, mK168, mK169, mK170, mK171, mK172, mK173, mK174, mK175, mK176, mK177, mK178, mK179, mK180, mK181, mK182, mK183, mK184, mK185, mK186, mK187, mK188, mK189, mK190, mK191, mK192, mK193, mK194, mK195, mK196, mK197, mK198, mK199]
def mTabs_4 : List (List (Option mI)) := [mK200, mK201, mK202, mK203, mK204, mK205, mK206, mK207, mK208, mK209, mK210, mK211, mK212, mK213, mK214, mK215, mK216, mK217, mK218, mK219, mK220, mK221, mK222, mK223, mK224, mK225, mK226, mK227, mK228, mK229, mK230, mK231, mK232, mK233, mK234, mK235, mK236, mK237, mK238, mK239, mK240, mK241, mK242, mK243, mK244, mK245, mK246, mK247, mK248, mK249]
def mTabs_5 : List (List (Option mI)) := [mK250, mK251, mK252, mK253, mK254, mK255, mK256, mK257, mK258, mK259, mK260, mK261, mK262, mK263, mK264]
def mTabs : List (List (Option mI)) := mTabs_0 ++ (mTabs_1 ++ (mTabs_2 ++ (mTabs_3 ++ (mTabs_4 ++ (mTabs_5)))))
abbrev mQ : Type := MethodName × ByteArray × Nat × Option FieldType × Nat × Nat × Nat × Nat × Bool
/-- name, code, locals, answer, the class that is its own, the kind of its answer, its values (this among them), its locals at entry, is it static -/
def mMt_0 : List mQ := [(yX0_init, cX0_init, 1, none, 0, 0, 1, 1, false), (yX0_takeFrom, cX0_takeFrom, 2, none, 0, 0, 2, 2, false), (yX0_pass, cX0_pass, 7, (some .boolean), 0, 2, 4, 4, false), (yX0_firstAbove, cX0_firstAbove, 3, (some .int), 0, 1, 2, 2, false), (yX1_init, cX1_init, 1, none, 1, 0, 1, 1, false), (yX1_add, cX1_add, 2, (some .int), 1, 1, 2, 2, false), (yX1_bestFor, cX1_bestFor, 5, (some .int), 1, 1, 3, 3, false), (yX1_isBetter, cX1_isBetter, 5, (some .boolean), 1, 2, 4, 4, false), (yX1_costOf, cX1_costOf, 4, (some .int), 1, 1, 2, 2, false), (yX1_worstOf, cX1_worstOf, 5, (some .int), 1, 1, 3, 3, false), (yX1_givenIn, cX1_givenIn, 5, (some .int), 1, 1, 3, 3, false), (yX1_mixed, cX1_mixed, 4, (some .long), 1, 3, 2, 3, false), (yX2_init, cX2_init, 2, none, 2, 0, 1, 1, false), (yX2_add, cX2_add, 3, (some .int), 2, 1, 3, 3, false), (yX2_goesOf, cX2_goesOf, 2, (some .int), 2, 1, 2, 2, false), (yX2_comesOf, cX2_comesOf, 3, (some .int), 2, 1, 3, 3, false), (yX2_driveBest, cX2_driveBest, 2, none, 2, 0, 1, 1, false), (yX2_mostOf, cX2_mostOf, 4, (some .int), 2, 1, 2, 2, false), (yX2_send, cX2_send, 4, none, 2, 0, 3, 3, true), (yX2_mixed, cX2_mixed, 4, (some .long), 2, 3, 2, 3, false), (yX3_init, cX3_init, 1, none, 3, 0, 1, 1, false), (yX3_isOne, cX3_isOne, 2, (some .boolean), 3, 2, 2, 2, false), (yX3_add, cX3_add, 3, (some .int), 3, 1, 3, 3, false), (yX3_fallenAt, cX3_fallenAt, 5, (some .int), 3, 1, 2, 2, false), (yX3_fallenAfter, cX3_fallenAfter, 5, (some .int), 3, 1, 3, 3, false), (yX3_left, cX3_left, 6, (some .int), 3, 1, 4, 4, false), (yX3_leastPrice, cX3_leastPrice, 6, (some .int), 3, 1, 2, 2, false), (yX3_mixed, cX3_mixed, 4, (some .long), 3, 3, 2, 3, false), (yX4_init, cX4_init, 1, none, 4, 0, 1, 1, false), (yX4_addLeg, cX4_addLeg, 3, (some .int), 4, 1, 3, 3, false), (yX4_allHours, cX4_allHours, 3, (some .int), 4, 1, 1, 1, false), (yX4_seaOf, cX4_seaOf, 5, (some .int), 4, 1, 2, 2, false), (yX4_nextWarmth, cX4_nextWarmth, 7, (some .int), 4, 1, 5, 5, false), (yX4_pull, cX4_pull, 4, (some .int), 4, 1, 2, 2, true), (yX4_mixed, cX4_mixed, 5, (some .long), 4, 3, 3, 4, false), (yX5_init, cX5_init, 1, none, 5, 0, 1, 1, false), (yX5_isKind, cX5_isKind, 1, (some .boolean), 5, 2, 1, 1, true), (yX5_isSuch, cX5_isSuch, 2, (some .boolean), 5, 2, 2, 2, true), (yX5_isOne, cX5_isOne, 2, (some .boolean), 5, 2, 2, 2, false), (yX5_add, cX5_add, 4, (some .int), 5, 1, 4, 4, false), (yX5_spoilIn, cX5_spoilIn, 3, none, 5, 0, 2, 2, false), (yX5_noteStates, cX5_noteStates, 6, none, 5, 0, 3, 3, false), (yX5_lostIn, cX5_lostIn, 4, (some .int), 5, 1, 2, 2, false), (yX5_tell, cX5_tell, 5, (some .int), 5, 1, 5, 5, false), (yX5_stateFrom, cX5_stateFrom, 1, (some .int), 5, 1, 1, 1, true), (yX5_spoils, cX5_spoils, 2, (some .int), 5, 1, 2, 2, true), (yX5_carcassSpoils, cX5_carcassSpoils, 1, (some .int), 5, 1, 1, 1, true), (yX5_worth, cX5_worth, 3, (some .int), 5, 1, 1, 1, true), (yX6_init, cX6_init, 1, none, 6, 0, 1, 1, false), (yX6_add, cX6_add, 3, (some .int), 6, 1, 3, 3, false)]
def mMt_1 : List mQ := [(yX6_run, cX6_run, 2, none, 6, 0, 1, 1, false), (yX6_priceIn, cX6_priceIn, 2, (some .int), 6, 1, 2, 2, false), (yX6_shippedIn, cX6_shippedIn, 2, (some .int), 6, 1, 2, 2, false), (yX6_sellersAt, cX6_sellersAt, 4, (some .int), 6, 1, 2, 2, false), (yX6_loadOf, cX6_loadOf, 4, (some .int), 6, 1, 2, 2, false), (yX6_tell, cX6_tell, 4, (some .int), 6, 1, 3, 3, false), (yX6_turn, cX6_turn, 4, (some .int), 6, 1, 2, 2, false), (yX6_alike, cX6_alike, 4, (some .boolean), 6, 2, 3, 3, false), (yX6_mixed, cX6_mixed, 4, (some .long), 6, 3, 2, 3, false), (yX7_init, cX7_init, 1, none, 7, 0, 1, 1, false), (yX7_add, cX7_add, 3, (some .int), 7, 1, 3, 3, false), (yX7_isRead, cX7_isRead, 2, (some .boolean), 7, 2, 2, 2, false), (yX7_agree, cX7_agree, 4, (some .boolean), 7, 2, 1, 1, false), (yX7_least, cX7_least, 4, (some .int), 7, 1, 2, 2, false), (yX7_greatest, cX7_greatest, 4, (some .int), 7, 1, 2, 2, false), (yX7_above, cX7_above, 6, (some .int), 7, 1, 4, 4, false), (yX7_mixed, cX7_mixed, 4, (some .long), 7, 3, 2, 3, false), (yX8_init, cX8_init, 1, none, 8, 0, 1, 1, false), (yX8_add, cX8_add, 3, (some .int), 8, 1, 3, 3, false), (yX8_allSets, cX8_allSets, 1, (some .int), 8, 1, 1, 1, false), (yX8_isIn, cX8_isIn, 2, (some .boolean), 8, 2, 2, 2, true), (yX8_shipsOf, cX8_shipsOf, 4, (some .int), 8, 1, 2, 2, false), (yX8_earned, cX8_earned, 5, (some .long), 8, 3, 3, 3, false), (yX8_holds, cX8_holds, 3, (some .boolean), 8, 2, 2, 2, false), (yX8_howManyHold, cX8_howManyHold, 3, (some .int), 8, 1, 1, 1, false), (yX8_greatestThatHolds, cX8_greatestThatHolds, 4, (some .int), 8, 1, 1, 1, false), (yX8_mixed, cX8_mixed, 4, (some .long), 8, 3, 2, 3, false), (yX9_init, cX9_init, 1, none, 9, 0, 1, 1, false), (yX9_add, cX9_add, 2, (some .int), 9, 1, 2, 2, false), (yX9_stackOf, cX9_stackOf, 2, (some .int), 9, 1, 2, 2, false), (yX9_layBest, cX9_layBest, 3, (some .boolean), 9, 2, 3, 3, false), (yX9_place, cX9_place, 6, none, 9, 0, 4, 4, true), (yX9_dugFrom, cX9_dugFrom, 4, (some .int), 9, 1, 2, 2, false), (yX10_init, cX10_init, 1, none, 10, 0, 1, 1, false), (yX10_lettersIn, cX10_lettersIn, 6, (some .int), 10, 1, 1, 2, true), (yX10_code, cX10_code, 3, (some .int), 10, 1, 2, 3, true), (yX10_append, cX10_append, 5, (some .int), 10, 1, 3, 4, false), (yX10_scan, cX10_scan, 2, (some .int), 10, 1, 1, 1, false), (yX10_after, cX10_after, 3, (some .int), 10, 1, 3, 3, false), (yX10_intoFactor, cX10_intoFactor, 2, (some .int), 10, 1, 2, 2, false), (yX10_behindFactor, cX10_behindFactor, 3, (some .int), 10, 1, 3, 3, false), (yX10_isDigit, cX10_isDigit, 1, (some .boolean), 10, 2, 1, 1, true), (yX10_letterNumber, cX10_letterNumber, 1, (some .int), 10, 1, 1, 1, true), (yX10_isWhole, cX10_isWhole, 1, (some .boolean), 10, 2, 1, 1, false), (yX10_keepPage, cX10_keepPage, 1, (some .int), 10, 1, 1, 1, false), (yX10_lastOf, cX10_lastOf, 3, (some .int), 10, 1, 2, 2, false), (yX10_holds, cX10_holds, 6, (some .boolean), 10, 2, 4, 6, false), (yX10_valueOf, cX10_valueOf, 3, (some .long), 10, 3, 3, 3, false), (yX10_value, cX10_value, 8, (some .long), 10, 3, 4, 4, false), (yX10_begin, cX10_begin, 2, none, 10, 0, 2, 2, false)]
def mMt_2 : List mQ := [(yX10_named, cX10_named, 2, (some .int), 10, 1, 2, 2, false), (yX11_init, cX11_init, 1, none, 11, 0, 1, 1, false), (yX11_within, cX11_within, 3, (some .boolean), 11, 2, 3, 3, true), (yX11_isCell, cX11_isCell, 1, (some .boolean), 11, 2, 1, 1, true), (yX11_isWarmth, cX11_isWarmth, 1, (some .boolean), 11, 2, 1, 1, true), (yX11_change, cX11_change, 4, (some .int), 11, 1, 3, 3, true), (yX11_mix, cX11_mix, 4, (some .long), 11, 3, 2, 4, true), (yX11_mixRow, cX11_mixRow, 5, (some .long), 11, 3, 3, 4, true), (yX11_leg, cX11_leg, 3, (some .int), 11, 1, 3, 3, false), (yX11_warm, cX11_warm, 3, (some .int), 11, 1, 3, 3, false), (yX11_warmth, cX11_warmth, 2, (some .int), 11, 1, 2, 2, false), (yX11_outer, cX11_outer, 3, (some .int), 11, 1, 3, 3, false), (yX11_pipe, cX11_pipe, 3, (some .int), 11, 1, 3, 3, false), (yX11_engine, cX11_engine, 4, (some .int), 11, 1, 3, 3, false), (yX11_breaks, cX11_breaks, 2, (some .int), 11, 1, 2, 2, false), (yX11_sea, cX11_sea, 2, (some .int), 11, 1, 2, 2, false), (yX11_hours, cX11_hours, 5, (some .int), 11, 1, 2, 2, false), (yX11_first, cX11_first, 6, (some .int), 11, 1, 3, 3, false), (yX11_lot, cX11_lot, 3, (some .int), 11, 1, 3, 3, false), (yX11_lay, cX11_lay, 3, (some .int), 11, 1, 3, 3, false), (yX11_about, cX11_about, 3, (some .int), 11, 1, 3, 3, false), (yX11_as, cX11_as, 3, (some .int), 11, 1, 3, 3, false), (yX11_letters, cX11_letters, 4, (some .int), 11, 1, 2, 3, false), (yX11_blank, cX11_blank, 2, (some .int), 11, 1, 1, 1, false), (yX11_fault, cX11_fault, 1, (some .int), 11, 1, 1, 1, false), (yX11_text, cX11_text, 1, (some .int), 11, 1, 1, 1, false), (yX11_says, cX11_says, 4, (some .int), 11, 1, 3, 3, false), (yX11_sum, cX11_sum, 4, (some .long), 11, 3, 4, 4, false), (yX11_sumOf, cX11_sumOf, 4, (some .long), 11, 3, 4, 4, false), (yX11_lost, cX11_lost, 3, (some .int), 11, 1, 3, 3, false), (yX11_way, cX11_way, 2, (some .int), 11, 1, 2, 2, false), (yX11_lostGoing, cX11_lostGoing, 7, (some .int), 11, 1, 3, 3, false), (yX11_reading, cX11_reading, 3, (some .int), 11, 1, 3, 3, false), (yX11_rate, cX11_rate, 3, (some .int), 11, 1, 2, 2, false), (yX11_could, cX11_could, 3, (some .int), 11, 1, 3, 3, false), (yX11_was, cX11_was, 4, (some .int), 11, 1, 4, 4, false), (yX11_arrive, cX11_arrive, 2, (some .int), 11, 1, 2, 2, false), (yX11_laid, cX11_laid, 4, (some .int), 11, 1, 4, 4, false), (yX11_flock, cX11_flock, 3, (some .int), 11, 1, 3, 3, false), (yX11_works, cX11_works, 3, (some .int), 11, 1, 3, 3, false), (yX11_days, cX11_days, 4, (some .int), 11, 1, 4, 4, false), (yX11_loss, cX11_loss, 3, (some .int), 11, 1, 2, 2, false), (yX11_driven, cX11_driven, 2, (some .int), 11, 1, 2, 2, false), (yX11_market, cX11_market, 3, (some .int), 11, 1, 3, 3, false), (yX11_seller, cX11_seller, 3, (some .int), 11, 1, 3, 3, false), (yX11_week, cX11_week, 3, (some .int), 11, 1, 3, 3, false), (yX11_turns, cX11_turns, 2, (some .int), 11, 1, 2, 2, false), (yX11_farm, cX11_farm, 3, (some .int), 11, 1, 3, 3, false), (yX11_owe, cX11_owe, 4, (some .int), 11, 1, 4, 4, false), (yX11_falls, cX11_falls, 4, (some .int), 11, 1, 3, 3, false)]
def mMt_3 : List mQ := [(yX11_safe, cX11_safe, 2, (some .int), 11, 1, 2, 2, false), (yX11_line, cX11_line, 3, (some .int), 11, 1, 3, 3, false), (yX11_ring, cX11_ring, 3, (some .int), 11, 1, 3, 3, false), (yX11_earns, cX11_earns, 3, (some .long), 11, 3, 3, 3, false), (yX11_stable, cX11_stable, 2, (some .int), 11, 1, 2, 2, false), (yX11_choice, cX11_choice, 2, (some .int), 11, 1, 2, 2, false), (yX11_gives, cX11_gives, 4, (some .int), 11, 1, 4, 4, false), (yX11_plan, cX11_plan, 5, (some .int), 11, 1, 4, 4, false), (yX11_count, cX11_count, 2, (some .int), 11, 1, 2, 2, false), (yX11_howMany, cX11_howMany, 2, (some .int), 11, 1, 2, 2, false), (yX11_digest, cX11_digest, 4, (some .long), 11, 3, 1, 1, false), (yX11_mixLots, cX11_mixLots, 5, (some .long), 11, 3, 2, 3, false), (yX11_mixSums, cX11_mixSums, 5, (some .long), 11, 3, 2, 3, false), (yX12_init, cX12_init, 2, none, 12, 0, 1, 1, false), (yX12_in, cX12_in, 3, (some .boolean), 12, 2, 3, 3, true), (yX12_isCell, cX12_isCell, 1, (some .boolean), 12, 2, 1, 1, true), (yX12_floorBy, cX12_floorBy, 2, (some .int), 12, 1, 2, 2, true), (yX12_leg, cX12_leg, 3, (some .int), 12, 1, 3, 3, false), (yX12_warm, cX12_warm, 4, (some .int), 12, 1, 3, 3, false), (yX12_warmth, cX12_warmth, 2, (some .int), 12, 1, 2, 2, false), (yX12_outer, cX12_outer, 4, (some .int), 12, 1, 3, 3, false), (yX12_pipe, cX12_pipe, 4, (some .int), 12, 1, 3, 3, false), (yX12_engine, cX12_engine, 5, (some .int), 12, 1, 3, 3, false), (yX12_breaks, cX12_breaks, 2, (some .int), 12, 1, 2, 2, false), (yX12_seaOf, cX12_seaOf, 5, (some .int), 12, 1, 2, 2, false), (yX12_sea, cX12_sea, 2, (some .int), 12, 1, 2, 2, false), (yX12_startAsNow, cX12_startAsNow, 2, none, 12, 0, 1, 1, false), (yX12_besides, cX12_besides, 3, (some .int), 12, 1, 2, 2, false), (yX12_anHour, cX12_anHour, 5, (some .boolean), 12, 2, 2, 2, false), (yX12_spoils, cX12_spoils, 3, (some .int), 12, 1, 2, 2, true), (yX12_stateOf, cX12_stateOf, 1, (some .int), 12, 1, 1, 1, true), (yX12_hours, cX12_hours, 6, (some .int), 12, 1, 2, 2, false), (yX12_above, cX12_above, 3, (some .int), 12, 1, 2, 2, false), (yX12_first, cX12_first, 5, (some .int), 12, 1, 3, 3, false), (yX12_isLot, cX12_isLot, 2, (some .boolean), 12, 2, 2, 2, false), (yX12_lot, cX12_lot, 4, (some .int), 12, 1, 3, 3, false), (yX12_lay, cX12_lay, 4, (some .int), 12, 1, 3, 3, false), (yX12_worthOf, cX12_worthOf, 4, (some .int), 12, 1, 2, 2, false), (yX12_aboutOf, cX12_aboutOf, 3, (some .int), 12, 1, 3, 3, false), (yX12_about, cX12_about, 3, (some .int), 12, 1, 3, 3, false), (yX12_as, cX12_as, 4, (some .int), 12, 1, 3, 3, false), (yX12_letters, cX12_letters, 7, (some .int), 12, 1, 2, 3, false), (yX12_blank, cX12_blank, 2, (some .int), 12, 1, 1, 1, false), (yX12_isMark, cX12_isMark, 1, (some .boolean), 12, 2, 1, 1, true), (yX12_readText, cX12_readText, 9, none, 12, 0, 1, 1, false), (yX12_fault, cX12_fault, 1, (some .int), 12, 1, 1, 1, false), (yX12_text, cX12_text, 2, (some .int), 12, 1, 1, 1, false), (yX12_openSum, cX12_openSum, 1, none, 12, 0, 1, 1, false), (yX12_closeSum, cX12_closeSum, 1, (some .long), 12, 3, 1, 1, false), (yX12_sumFrom, cX12_sumFrom, 8, (some .long), 12, 3, 4, 4, false)]
def mMt_4 : List mQ := [(yX12_markOf, cX12_markOf, 3, (some .int), 12, 1, 2, 2, false), (yX12_sumOf, cX12_sumOf, 4, (some .long), 12, 3, 4, 4, false), (yX12_says, cX12_says, 10, (some .int), 12, 1, 3, 3, false), (yX12_sum, cX12_sum, 4, (some .long), 12, 3, 4, 4, false), (yX12_lostBy, cX12_lostBy, 5, (some .int), 12, 1, 3, 3, false), (yX12_lost, cX12_lost, 3, (some .int), 12, 1, 3, 3, false), (yX12_way, cX12_way, 3, (some .int), 12, 1, 2, 2, false), (yX12_reading, cX12_reading, 3, (some .int), 12, 1, 3, 3, false), (yX12_rate, cX12_rate, 3, (some .int), 12, 1, 2, 2, false), (yX12_reach, cX12_reach, 4, (some .int), 12, 1, 3, 3, false), (yX12_couldBe, cX12_couldBe, 6, (some .int), 12, 1, 3, 3, false), (yX12_goTogether, cX12_goTogether, 2, (some .boolean), 12, 2, 1, 1, false), (yX12_could, cX12_could, 3, (some .int), 12, 1, 3, 3, false), (yX12_was, cX12_was, 7, (some .int), 12, 1, 4, 4, false), (yX12_arrive, cX12_arrive, 2, (some .int), 12, 1, 2, 2, false), (yX12_ones, cX12_ones, 3, (some .int), 12, 1, 1, 1, true), (yX12_dugWith, cX12_dugWith, 5, (some .int), 12, 1, 3, 3, false), (yX12_seekLaid, cX12_seekLaid, 5, none, 12, 0, 3, 3, false), (yX12_laid, cX12_laid, 4, (some .int), 12, 1, 4, 4, false), (yX12_isFlock, cX12_isFlock, 2, (some .boolean), 12, 2, 2, 2, false), (yX12_flock, cX12_flock, 3, (some .int), 12, 1, 3, 3, false), (yX12_works, cX12_works, 4, (some .int), 12, 1, 3, 3, false), (yX12_days, cX12_days, 5, (some .int), 12, 1, 4, 4, false), (yX12_loss, cX12_loss, 3, (some .int), 12, 1, 2, 2, false), (yX12_comesOf, cX12_comesOf, 4, (some .int), 12, 1, 3, 3, false), (yX12_seekDriven, cX12_seekDriven, 9, (some .int), 12, 1, 1, 1, false), (yX12_driven, cX12_driven, 3, (some .int), 12, 1, 2, 2, false), (yX12_market, cX12_market, 4, (some .int), 12, 1, 3, 3, false), (yX12_seller, cX12_seller, 3, (some .int), 12, 1, 3, 3, false), (yX12_priceAt, cX12_priceAt, 2, (some .int), 12, 1, 2, 2, false), (yX12_shippedAt, cX12_shippedAt, 2, (some .int), 12, 1, 2, 2, false), (yX12_goWeeks, cX12_goWeeks, 4, none, 12, 0, 1, 1, false), (yX12_week, cX12_week, 7, (some .int), 12, 1, 3, 3, false), (yX12_isAgain, cX12_isAgain, 5, (some .boolean), 12, 2, 3, 3, false), (yX12_turns, cX12_turns, 4, (some .int), 12, 1, 2, 2, false), (yX12_farm, cX12_farm, 3, (some .int), 12, 1, 3, 3, false), (yX12_owe, cX12_owe, 5, (some .int), 12, 1, 4, 4, false), (yX12_fallenAt, cX12_fallenAt, 8, (some .int), 12, 1, 2, 2, false), (yX12_falls, cX12_falls, 4, (some .int), 12, 1, 3, 3, false), (yX12_safe, cX12_safe, 4, (some .int), 12, 1, 2, 2, false), (yX12_line, cX12_line, 3, (some .int), 12, 1, 3, 3, false), (yX12_ring, cX12_ring, 4, (some .int), 12, 1, 3, 3, false), (yX12_shipsIn, cX12_shipsIn, 4, (some .int), 12, 1, 2, 2, false), (yX12_earnsOf, cX12_earnsOf, 6, (some .long), 12, 3, 3, 3, false), (yX12_earns, cX12_earns, 3, (some .long), 12, 3, 3, 3, false), (yX12_isStable, cX12_isStable, 3, (some .boolean), 12, 2, 2, 2, false), (yX12_stable, cX12_stable, 5, (some .int), 12, 1, 2, 2, false), (yX12_choice, cX12_choice, 2, (some .int), 12, 1, 2, 2, false), (yX12_gives, cX12_gives, 5, (some .int), 12, 1, 4, 4, false), (yX12_worstOf, cX12_worstOf, 7, (some .int), 12, 1, 3, 3, false)]
def mMt_5 : List mQ := [(yX12_costOf, cX12_costOf, 4, (some .int), 12, 1, 2, 2, false), (yX12_plan, cX12_plan, 7, (some .int), 12, 1, 4, 4, false), (yX12_countOf, cX12_countOf, 2, (some .int), 12, 1, 2, 2, false), (yX12_count, cX12_count, 2, (some .int), 12, 1, 2, 2, false), (yX12_mix, cX12_mix, 3, none, 12, 0, 2, 3, false), (yX12_mixHold, cX12_mixHold, 3, none, 12, 0, 1, 1, false), (yX12_mixLand, cX12_mixLand, 3, none, 12, 0, 1, 1, false), (yX12_digest, cX12_digest, 3, (some .long), 12, 3, 1, 1, false), (yJ6_bitCount_0f7a4, cJ6_bitCount_0f7a4, 1, (some .int), 13, 1, 1, 1, true), (yJ9_floorDiv_7cf53, cJ9_floorDiv_7cf53, 3, (some .int), 14, 1, 2, 2, true), (yJ9_abs_0f7a4, cJ9_abs_0f7a4, 1, (some .int), 14, 1, 1, 1, true), (yJ9_max_7cf53, cJ9_max_7cf53, 2, (some .int), 14, 1, 2, 2, true), (yJ9_min_7cf53, cJ9_min_7cf53, 2, (some .int), 14, 1, 2, 2, true), (yJ7_fill_53178, cJ7_fill_53178, 4, none, 15, 0, 2, 2, true), (yL_law, cL_law, 4, (some .boolean), 16, 2, 1, 1, true)]
def mMt : List mQ := mMt_0 ++ (mMt_1 ++ (mMt_2 ++ (mMt_3 ++ (mMt_4 ++ (mMt_5)))))
def mOwns : List String := [RX0, RX1, RX2, RX3, RX4, RX5, RX6, RX7, RX8, RX9, RX10, RX11, RX12, RJ6, RJ9, RJ7, RL]
def mFL : List (Nat × Nat × Nat × Nat × Nat) := [(0, 9, 0, 0, 138), (0, 15, 0, 1, 141), (0, 18, 0, 3, 146), (0, 33, 0, 2, 144), (0, 37, 4, 2, 104), (1, 13, 1, 0, 428), (1, 16, 1, 2, 432), (1, 20, 1, 1, 430), (2, 11, 2, 0, 308), (2, 17, 2, 1, 310), (2, 20, 2, 3, 314), (2, 24, 2, 5, 318), (2, 27, 2, 6, 319), (2, 30, 2, 7, 320), (2, 33, 2, 8, 321), (2, 36, 2, 9, 322), (2, 39, 2, 10, 323), (2, 48, 2, 2, 312), (2, 67, 2, 4, 316), (3, 13, 3, 0, 381), (3, 16, 3, 3, 387), (3, 20, 3, 4, 388), (3, 23, 3, 1, 383), (3, 31, 3, 2, 385), (4, 9, 4, 0, 99), (4, 15, 4, 1, 101), (4, 18, 4, 2, 103), (4, 22, 4, 5, 109), (4, 26, 4, 6, 111), (4, 29, 4, 7, 112), (4, 38, 4, 3, 106), (5, 9, 5, 0, 164), (5, 15, 5, 1, 166), (5, 18, 5, 2, 168), (5, 23, 5, 4, 172), (5, 30, 5, 3, 170), (5, 40, 0, 1, 142), (5, 45, 0, 0, 139), (6, 9, 6, 0, 353), (6, 15, 6, 2, 357), (6, 18, 6, 3, 358), (6, 21, 6, 4, 359), (6, 24, 6, 5, 360), (6, 27, 6, 1, 355), (7, 9, 7, 1, 253), (7, 15, 7, 2, 255), (7, 19, 7, 3, 256), (7, 22, 7, 0, 251), (8, 9, 8, 0, 406), (8, 15, 8, 2, 410), (8, 18, 8, 3, 411), (8, 21, 8, 1, 408), (9, 11, 9, 0, 272), (9, 15, 9, 5, 280), (9, 18, 9, 6, 281), (9, 21, 9, 7, 282), (9, 24, 9, 1, 274), (9, 28, 9, 3, 278), (9, 31, 9, 4, 279), (9, 34, 9, 2, 276), (10, 11, 10, 0, 191), (10, 17, 10, 7, 205), (10, 20, 10, 8, 206), (10, 23, 10, 9, 207), (10, 26, 10, 10, 208), (10, 30, 10, 11, 209), (10, 37, 10, 1, 193), (10, 41, 10, 12, 210), (10, 44, 10, 13, 211), (10, 47, 10, 14, 212), (10, 76, 10, 2, 195), (10, 98, 10, 3, 197), (10, 101, 10, 4, 199), (10, 104, 10, 5, 201), (10, 107, 10, 6, 203), (11, 10, 11, 0, 440), (11, 19, 11, 1, 441), (11, 23, 11, 2, 442), (11, 29, 11, 3, 443), (11, 36, 11, 4, 444), (11, 43, 11, 5, 445), (11, 50, 11, 6, 446), (11, 57, 11, 7, 447), (11, 64, 11, 8, 448), (11, 71, 11, 9, 449), (11, 78, 11, 10, 450), (11, 85, 11, 11, 451), (11, 99, 4, 4, 108), (11, 114, 0, 0, 140), (11, 122, 4, 0, 100), (11, 125, 4, 1, 102), (11, 134, 0, 2, 145), (11, 137, 4, 2, 105), (11, 141, 4, 5, 110), (11, 176, 5, 1, 167), (11, 183, 5, 0, 165), (11, 198, 10, 1, 194), (11, 223, 10, 2, 196), (11, 226, 0, 1, 143), (11, 229, 10, 3, 198), (11, 231, 10, 4, 200), (11, 233, 5, 2, 169), (11, 236, 10, 5, 202), (11, 239, 10, 6, 204), (11, 262, 7, 1, 254), (11, 282, 9, 2, 277), (11, 289, 2, 0, 309), (11, 292, 2, 2, 313), (11, 293, 2, 1, 311), (11, 297, 2, 3, 315), (11, 303, 2, 4, 317), (11, 311, 6, 0, 354), (11, 323, 3, 0, 382), (11, 329, 3, 2, 386), (11, 337, 8, 0, 407), (11, 338, 8, 1, 409), (11, 356, 1, 1, 431), (11, 357, 1, 0, 429), (11, 373, 4, 3, 107), (11, 376, 5, 3, 171), (11, 377, 7, 0, 252), (11, 378, 9, 1, 275), (11, 379, 6, 1, 356), (11, 380, 3, 1, 384), (11, 396, 9, 0, 273), (11, 408, 10, 0, 192), (12, 7, 12, 0, 1146), (12, 13, 12, 1, 1147), (12, 16, 12, 2, 1148), (12, 20, 12, 3, 1149), (12, 24, 12, 4, 1150), (12, 27, 12, 5, 1151), (12, 31, 12, 8, 1154), (12, 34, 12, 10, 1156), (12, 37, 12, 11, 1157), (12, 40, 12, 13, 1159), (12, 43, 12, 14, 1160), (12, 46, 12, 15, 1161), (12, 49, 12, 16, 1162), (12, 52, 12, 17, 1163), (12, 55, 12, 19, 1165), (12, 59, 12, 21, 1167), (12, 62, 12, 22, 1168), (12, 65, 12, 24, 1170), (12, 68, 12, 25, 1171), (12, 71, 12, 26, 1172), (12, 74, 12, 28, 1174), (12, 77, 12, 30, 1176), (12, 80, 12, 31, 1177), (12, 83, 12, 32, 1178), (12, 86, 12, 33, 1179), (12, 89, 12, 34, 1180), (12, 92, 12, 35, 1181), (12, 95, 12, 36, 1182), (12, 98, 12, 37, 1183), (12, 101, 12, 38, 1184), (12, 104, 12, 40, 1186), (12, 107, 12, 41, 1187), (12, 110, 12, 43, 1189), (12, 113, 12, 44, 1190), (12, 116, 12, 45, 1191), (12, 119, 12, 47, 1193), (12, 122, 12, 48, 1194), (12, 125, 12, 49, 1195), (12, 128, 12, 50, 1196), (12, 131, 12, 51, 1197), (12, 134, 12, 52, 1198), (12, 137, 12, 54, 1200), (12, 140, 12, 55, 1201), (12, 143, 12, 56, 1202), (12, 146, 12, 57, 1203), (12, 149, 12, 58, 1204), (12, 152, 12, 64, 1210), (12, 156, 12, 65, 1211), (12, 159, 12, 67, 1213), (12, 162, 12, 68, 1214), (12, 165, 12, 69, 1215), (12, 168, 12, 71, 1217), (12, 171, 12, 72, 1218), (12, 174, 12, 73, 1219), (12, 177, 12, 74, 1220), (12, 180, 12, 75, 1221), (12, 187, 12, 7, 1153), (12, 190, 12, 9, 1155), (12, 197, 12, 6, 1152), (12, 204, 12, 12, 1158), (12, 207, 12, 59, 1205), (12, 210, 12, 60, 1206), (12, 213, 12, 61, 1207), (12, 249, 12, 18, 1164), (12, 255, 12, 62, 1208), (12, 258, 12, 63, 1209), (12, 265, 12, 20, 1166), (12, 268, 12, 66, 1212), (12, 297, 12, 23, 1169), (12, 310, 12, 27, 1173), (12, 313, 12, 70, 1216), (12, 326, 12, 29, 1175), (12, 339, 12, 39, 1185), (12, 355, 12, 42, 1188), (12, 358, 12, 76, 1222), (12, 364, 12, 46, 1192), (12, 381, 12, 53, 1199), (12, 396, 12, 77, 1223)]
def mML : List (Nat × Nat × Nat × Nat × Nat) := [(0, 21, 263, 0, 137), (0, 42, 32, 0, 542), (1, 24, 8, 0, 1050), (1, 28, 7, 0, 1054), (1, 32, 9, 0, 1058), (1, 36, 10, 0, 1062), (1, 39, 262, 0, 1066), (1, 44, 106, 1, 1137), (1, 48, 107, 1, 1138), (2, 42, 263, 0, 307), (2, 51, 261, 0, 867), (2, 63, 17, 0, 859), (2, 70, 18, 0, 868), (2, 74, 15, 0, 863), (2, 77, 106, 1, 1113), (2, 81, 107, 1, 1114), (3, 27, 102, 1, 949), (3, 34, 24, 0, 958), (3, 38, 25, 0, 962), (3, 42, 23, 0, 974), (3, 46, 106, 1, 1125), (3, 50, 107, 1, 1126), (4, 32, 263, 0, 96), (4, 41, 33, 0, 546), (4, 45, 259, 0, 549), (4, 51, 261, 0, 552), (4, 54, 106, 1, 1086), (4, 58, 107, 1, 1090), (4, 62, 31, 0, 1094), (5, 26, 102, 1, 596), (5, 34, 263, 0, 601), (5, 48, 45, 0, 562), (5, 52, 44, 0, 574), (5, 56, 47, 0, 618), (5, 59, 46, 0, 565), (5, 62, 259, 0, 568), (5, 67, 261, 0, 569), (6, 31, 52, 0, 899), (6, 35, 261, 0, 903), (6, 41, 51, 0, 904), (6, 44, 53, 0, 908), (6, 47, 54, 0, 912), (6, 50, 258, 0, 920), (6, 55, 57, 0, 929), (6, 59, 107, 1, 1119), (6, 63, 106, 1, 1120), (7, 25, 260, 0, 767), (7, 31, 61, 0, 770), (7, 35, 261, 0, 778), (7, 39, 262, 0, 783), (7, 42, 63, 0, 792), (7, 45, 64, 0, 793), (7, 48, 106, 1, 1107), (8, 25, 70, 0, 1007), (8, 29, 71, 0, 1003), (8, 35, 72, 0, 1024), (8, 39, 69, 0, 1019), (8, 43, 73, 0, 1020), (8, 47, 106, 1, 1131), (8, 51, 107, 1, 1132), (9, 37, 81, 0, 810), (9, 41, 258, 0, 813), (9, 53, 262, 0, 820), (9, 59, 261, 0, 821), (9, 62, 82, 0, 822), (10, 33, 85, 0, 635), (10, 50, 88, 0, 654), (10, 54, 92, 0, 658), (10, 58, 89, 0, 661), (10, 61, 90, 0, 669), (10, 64, 91, 0, 665), (10, 68, 102, 1, 668), (10, 72, 87, 0, 681), (10, 85, 98, 0, 703), (10, 89, 99, 0, 707), (10, 95, 100, 0, 712), (11, 9, 28, 0, 91), (11, 18, 0, 0, 133), (11, 28, 35, 1, 158), (11, 35, 83, 1, 186), (11, 42, 59, 1, 247), (11, 49, 77, 1, 268), (11, 56, 12, 0, 302), (11, 63, 48, 1, 349), (11, 70, 20, 1, 376), (11, 77, 67, 1, 402), (11, 84, 4, 1, 423), (11, 89, 102, 0, 481), (11, 95, 106, 0, 1093), (11, 103, 29, 0, 484), (11, 107, 103, 0, 492), (11, 111, 104, 0, 495), (11, 118, 105, 0, 498), (11, 144, 31, 0, 530), (11, 148, 2, 0, 538), (11, 152, 40, 0, 558), (11, 156, 41, 0, 570), (11, 160, 1, 0, 581), (11, 163, 3, 0, 585), (11, 166, 36, 0, 593), (11, 169, 39, 0, 597), (11, 173, 38, 0, 606), (11, 179, 43, 0, 614), (11, 186, 37, 0, 625), (11, 190, 84, 0, 632), (11, 194, 86, 0, 638), (11, 201, 87, 0, 650), (11, 205, 93, 0, 677), (11, 209, 94, 0, 682), (11, 212, 95, 0, 691), (11, 215, 128, 0, 695), (11, 219, 96, 0, 716), (11, 241, 97, 0, 699), (11, 245, 131, 0, 728), (11, 248, 262, 0, 732), (11, 253, 30, 0, 735), (11, 256, 42, 0, 739), (11, 260, 60, 0, 751), (11, 265, 62, 0, 763), (11, 268, 63, 0, 774), (11, 271, 64, 0, 779), (11, 274, 65, 0, 788), (11, 277, 78, 0, 798), (11, 279, 80, 0, 806), (11, 285, 79, 0, 826), (11, 288, 13, 0, 834), (11, 300, 16, 0, 854), (11, 306, 14, 0, 871), (11, 312, 49, 0, 887), (11, 313, 50, 0, 895), (11, 316, 55, 0, 916), (11, 318, 56, 0, 925), (11, 321, 22, 0, 937), (11, 322, 21, 0, 945), (11, 326, 23, 0, 954), (11, 332, 26, 0, 970), (11, 335, 68, 0, 979), (11, 341, 69, 0, 994), (11, 346, 72, 0, 999), (11, 349, 74, 0, 1015), (11, 352, 75, 0, 1025), (11, 355, 5, 0, 1033), (11, 361, 6, 0, 1046), (11, 364, 9, 0, 1067), (11, 367, 8, 0, 1068), (11, 370, 159, 0, 1073), (11, 383, 34, 0, 1082), (11, 387, 161, 0, 1095), (11, 391, 162, 0, 1099), (11, 394, 66, 0, 1103), (11, 399, 107, 0, 1108), (11, 403, 19, 0, 1109), (11, 404, 58, 0, 1115), (11, 405, 27, 0, 1121), (11, 406, 76, 0, 1127), (11, 407, 11, 0, 1133), (12, 183, 164, 0, 1387), (12, 193, 165, 0, 1394), (12, 200, 174, 0, 1421), (12, 216, 177, 0, 1437), (12, 219, 166, 0, 1441), (12, 223, 179, 0, 1444), (12, 226, 176, 0, 1429), (12, 229, 178, 0, 1433), (12, 232, 180, 0, 1447), (12, 235, 182, 0, 1454), (12, 238, 184, 0, 1466), (12, 241, 187, 0, 1478), (12, 244, 188, 0, 1474), (12, 252, 193, 0, 1503), (12, 262, 194, 0, 1499), (12, 271, 197, 0, 1526), (12, 274, 198, 0, 1530), (12, 284, 200, 0, 1518), (12, 287, 199, 0, 1522), (12, 291, 201, 0, 1514), (12, 294, 204, 0, 1545), (12, 300, 209, 0, 1573), (12, 303, 210, 0, 1569), (12, 306, 211, 0, 1565), (12, 316, 215, 0, 1593), (12, 319, 216, 0, 1596), (12, 322, 217, 0, 1589), (12, 329, 219, 0, 1612), (12, 332, 224, 0, 1628), (12, 335, 225, 0, 1624), (12, 342, 230, 0, 1648), (12, 345, 229, 0, 1652), (12, 348, 231, 0, 1644), (12, 351, 233, 0, 1660), (12, 361, 237, 0, 1676), (12, 367, 242, 0, 1700), (12, 372, 243, 0, 1696), (12, 378, 245, 0, 1710), (12, 385, 250, 0, 1727), (12, 388, 249, 0, 1731), (12, 391, 252, 0, 1739), (12, 400, 254, 0, 1752), (12, 406, 255, 0, 1748), (12, 409, 256, 0, 1757), (16, 9, 101, 0, 83), (16, 12, 163, 0, 1141), (16, 13, 108, 0, 477), (16, 17, 167, 0, 1383), (16, 18, 109, 0, 488), (16, 21, 168, 0, 1390), (16, 22, 110, 0, 501), (16, 26, 169, 0, 1397), (16, 27, 111, 0, 505), (16, 30, 170, 0, 1401), (16, 31, 112, 0, 509), (16, 35, 171, 0, 1405), (16, 36, 113, 0, 513), (16, 39, 172, 0, 1409), (16, 40, 114, 0, 521), (16, 43, 173, 0, 1413), (16, 44, 115, 0, 526), (16, 47, 175, 0, 1417), (16, 48, 116, 0, 534), (16, 51, 181, 0, 1425), (16, 52, 117, 0, 577), (16, 55, 183, 0, 1450), (16, 56, 118, 0, 589), (16, 59, 185, 0, 1458), (16, 60, 119, 0, 602), (16, 63, 186, 0, 1462), (16, 64, 120, 0, 610), (16, 67, 189, 0, 1470), (16, 68, 121, 0, 621), (16, 71, 190, 0, 1482), (16, 74, 122, 0, 628), (16, 78, 191, 0, 1486), (16, 79, 123, 0, 642), (16, 83, 192, 0, 1491), (16, 84, 124, 0, 646), (16, 87, 195, 0, 1495), (16, 88, 125, 0, 673), (16, 91, 196, 0, 1506), (16, 92, 126, 0, 687), (16, 95, 202, 0, 1510), (16, 96, 127, 0, 720), (16, 100, 203, 0, 1537), (16, 101, 129, 0, 724), (16, 104, 205, 0, 1541), (16, 105, 130, 0, 743), (16, 108, 206, 0, 1549), (16, 109, 132, 0, 747), (16, 112, 207, 0, 1553), (16, 113, 133, 0, 755), (16, 116, 208, 0, 1557), (16, 117, 134, 0, 759), (16, 120, 212, 0, 1561), (16, 121, 135, 0, 784), (16, 125, 213, 0, 1577), (16, 126, 136, 0, 794), (16, 129, 214, 0, 1581), (16, 130, 137, 0, 802), (16, 133, 218, 0, 1585), (16, 134, 138, 0, 830), (16, 137, 220, 0, 1600), (16, 138, 139, 0, 838), (16, 141, 221, 0, 1604), (16, 142, 140, 0, 842), (16, 145, 222, 0, 1608), (16, 146, 141, 0, 846), (16, 149, 223, 0, 1616), (16, 150, 142, 0, 850), (16, 153, 226, 0, 1620), (16, 154, 143, 0, 875), (16, 157, 227, 0, 1632), (16, 158, 144, 0, 883), (16, 161, 228, 0, 1636), (16, 162, 145, 0, 891), (16, 165, 232, 0, 1640), (16, 166, 146, 0, 921), (16, 169, 234, 0, 1656), (16, 170, 147, 0, 933), (16, 173, 235, 0, 1664), (16, 174, 148, 0, 941), (16, 177, 236, 0, 1668), (16, 178, 149, 0, 950), (16, 181, 238, 0, 1672), (16, 182, 150, 0, 966), (16, 185, 239, 0, 1680), (16, 186, 151, 0, 975), (16, 189, 240, 0, 1684), (16, 190, 152, 0, 983), (16, 193, 241, 0, 1688), (16, 194, 153, 0, 989), (16, 198, 244, 0, 1692), (16, 199, 154, 0, 1011), (16, 202, 246, 0, 1706), (16, 203, 155, 0, 1029), (16, 206, 247, 0, 1714), (16, 207, 156, 0, 1037), (16, 210, 248, 0, 1718), (16, 211, 157, 0, 1041), (16, 214, 251, 0, 1722), (16, 215, 158, 0, 1069), (16, 218, 253, 0, 1735), (16, 219, 160, 0, 1077), (16, 223, 257, 0, 1743)]
def mCI : List (Nat × Nat × Int32 × Nat) := [(4, 21, 1000000, 95), (11, 140, 1000000, 525), (11, 360, 99999, 1045), (12, 30, 1000000, 1145), (12, 384, 99999, 1726), (13, 265, 1431655765, 816), (13, 266, 858993459, 817), (13, 267, 252645135, 818)]
def mCJ : List (Nat × Nat × Int64 × Nat) := [(8, 33, 100, 1010), (10, 93, (-1), 711), (11, 93, 31, 1089), (11, 339, (-1), 993), (11, 344, (-2), 998), (11, 381, 257, 1081), (12, 247, 255, 1490), (12, 278, (-1), 1534), (12, 280, 10, 1535), (12, 282, 48, 1536), (12, 370, 100, 1704), (12, 376, (-2), 1705), (12, 394, 31, 1756), (12, 404, 257, 1747), (16, 72, 4294967295, 1761)]
def mNL : List (Nat × Nat × Nat × Nat) := [(11, 7, 4, 89), (11, 16, 0, 131), (11, 26, 5, 156), (11, 33, 10, 184), (11, 40, 7, 245), (11, 47, 9, 266), (11, 54, 2, 300), (11, 61, 6, 347), (11, 68, 3, 374), (11, 75, 8, 400), (11, 82, 1, 421), (16, 7, 11, 81), (16, 10, 12, 1139)]
def mSL : List (Nat × Nat × Nat × Nat) := [(11, 128, 0, 517), (11, 131, 1, 519), (11, 309, 2, 879), (11, 310, 3, 881), (11, 336, 4, 987)]
def mAL : List (Nat × Nat × Nat) := [(1, 11, 427), (2, 15, 306), (3, 11, 380), (5, 21, 162), (10, 15, 190)]
def mOL : List (Nat × Nat × Nat) := [(0, 3, 136), (1, 3, 426), (2, 5, 305), (3, 3, 379), (4, 3, 94), (5, 3, 161), (6, 3, 352), (7, 3, 250), (8, 3, 405), (9, 3, 271), (10, 3, 189), (11, 1, 86), (12, 1, 1144)]
def mPL : List (Nat × Nat × Nat) := [(0, 27, 555), (2, 57, 858), (9, 47, 819), (10, 79, 686)]
def mPs : List (Nat × Nat × Nat × Nat) := [(135, 134, 0, 67), (584, 582, 583, 67), (541, 539, 540, 67), (588, 586, 587, 67), (425, 424, 0, 76), (1036, 1034, 1035, 76), (1049, 1047, 1048, 76), (1057, 1056, 21, 76), (1053, 1051, 1052, 76), (1061, 1059, 1060, 76), (1065, 1064, 22, 76), (1136, 1134, 1135, 76), (304, 303, 0, 72), (837, 835, 836, 72), (874, 872, 873, 72), (866, 865, 11, 72), (857, 855, 856, 72), (862, 861, 10, 72), (870, 869, 0, 72), (1112, 1110, 1111, 72), (378, 377, 0, 74), (948, 946, 947, 74), (940, 938, 939, 74), (957, 955, 956, 74), (961, 960, 17, 74), (965, 964, 18, 74), (973, 971, 972, 74), (1124, 1122, 1123, 74), (93, 92, 0, 65), (487, 485, 486, 65), (738, 736, 737, 65), (533, 531, 532, 65), (545, 543, 544, 65), (548, 547, 0, 65), (1085, 1083, 1084, 65), (160, 159, 0, 68), (595, 594, 0, 68), (627, 626, 0, 68), (609, 607, 608, 68), (600, 598, 599, 68), (561, 559, 560, 68), (573, 571, 572, 68), (742, 740, 741, 68), (617, 615, 616, 68), (576, 575, 0, 68), (564, 563, 0, 68), (567, 566, 0, 68), (620, 619, 0, 68), (351, 350, 0, 73), (890, 888, 889, 73), (898, 896, 897, 73), (907, 906, 13, 73), (902, 901, 12, 73), (911, 910, 14, 73), (915, 914, 15, 73), (919, 917, 918, 73), (928, 926, 927, 73), (932, 931, 16, 73), (1118, 1116, 1117, 73), (249, 248, 0, 70), (754, 752, 753, 70), (773, 772, 8, 70), (766, 764, 765, 70), (777, 775, 776, 70), (782, 780, 781, 70), (791, 789, 790, 70), (1106, 1104, 1105, 70), (404, 403, 0, 75), (982, 980, 981, 75), (997, 995, 996, 75), (1009, 1008, 0, 75), (1006, 1005, 19, 75), (1002, 1000, 1001, 75), (1023, 1022, 20, 75), (1018, 1016, 1017, 75), (1028, 1026, 1027, 75), (1130, 1128, 1129, 75), (270, 269, 0, 71), (801, 799, 800, 71), (829, 827, 828, 71), (809, 807, 808, 71), (812, 811, 0, 71), (825, 824, 9, 71), (188, 187, 0, 69), (634, 633, 0, 69), (637, 636, 0, 69), (641, 639, 640, 69), (653, 651, 652, 69), (657, 656, 0, 69), (664, 663, 1, 69), (672, 671, 2, 69), (667, 666, 0, 69), (660, 659, 0, 69), (680, 678, 679, 69), (685, 683, 684, 69), (694, 692, 693, 69), (719, 717, 718, 69), (702, 700, 701, 69), (706, 705, 4, 69), (710, 709, 5, 69), (715, 714, 6, 69), (85, 84, 0, 64), (483, 482, 0, 64), (494, 493, 0, 64), (497, 496, 0, 64), (500, 499, 0, 64), (1088, 1087, 0, 64), (1092, 1091, 0, 64), (480, 478, 479, 64), (491, 489, 490, 64), (504, 502, 503, 64), (508, 506, 507, 64), (512, 510, 511, 64), (516, 514, 515, 64), (524, 522, 523, 64), (529, 527, 528, 64), (537, 535, 536, 64), (580, 578, 579, 64), (592, 590, 591, 64), (605, 603, 604, 64), (613, 611, 612, 64), (624, 622, 623, 64), (631, 629, 630, 64), (645, 643, 644, 64), (649, 647, 648, 64), (676, 674, 675, 64), (690, 688, 689, 64), (723, 721, 722, 64), (698, 697, 3, 64), (727, 725, 726, 64), (746, 744, 745, 64), (731, 730, 7, 64), (750, 748, 749, 64), (758, 756, 757, 64), (762, 760, 761, 64), (787, 785, 786, 64), (797, 795, 796, 64), (805, 803, 804, 64), (833, 831, 832, 64), (841, 839, 840, 64), (845, 843, 844, 64), (849, 847, 848, 64), (853, 851, 852, 64), (878, 876, 877, 64), (886, 884, 885, 64), (894, 892, 893, 64), (924, 922, 923, 64), (936, 934, 935, 64), (944, 942, 943, 64), (953, 951, 952, 64), (969, 967, 968, 64), (978, 976, 977, 64), (986, 984, 985, 64), (992, 990, 991, 64), (1014, 1012, 1013, 64), (1032, 1030, 1031, 64), (1040, 1038, 1039, 64), (1044, 1042, 1043, 64), (1072, 1070, 1071, 64), (1076, 1075, 23, 64), (1080, 1078, 1079, 64), (1098, 1097, 24, 64), (1102, 1101, 25, 64), (1143, 1142, 0, 77), (1389, 1388, 0, 77), (1396, 1395, 0, 77), (1443, 1442, 0, 77), (1386, 1384, 1385, 77), (1393, 1391, 1392, 77), (1400, 1398, 1399, 77), (1404, 1402, 1403, 77), (1408, 1406, 1407, 77), (1412, 1410, 1411, 77), (1416, 1414, 1415, 77), (1424, 1423, 26, 77), (1420, 1418, 1419, 77), (1432, 1431, 27, 77), (1440, 1439, 29, 77), (1436, 1435, 28, 77), (1446, 1445, 0, 77), (1449, 1448, 0, 77), (1428, 1426, 1427, 77), (1457, 1456, 30, 77), (1453, 1451, 1452, 77), (1469, 1468, 31, 77), (1461, 1459, 1460, 77), (1465, 1463, 1464, 77), (1481, 1480, 33, 77), (1477, 1476, 32, 77), (1473, 1471, 1472, 77), (1485, 1483, 1484, 77), (1489, 1487, 1488, 77), (1494, 1492, 1493, 77), (1505, 1504, 0, 77), (1502, 1501, 34, 77), (1498, 1496, 1497, 77), (1509, 1507, 1508, 77), (1529, 1528, 38, 77), (1533, 1532, 39, 77), (1525, 1524, 37, 77), (1521, 1520, 36, 77), (1517, 1516, 35, 77), (1513, 1511, 1512, 77), (1540, 1538, 1539, 77), (1548, 1547, 40, 77), (1544, 1542, 1543, 77), (1552, 1550, 1551, 77), (1556, 1554, 1555, 77), (1560, 1558, 1559, 77), (1576, 1575, 43, 77), (1572, 1571, 42, 77), (1568, 1567, 41, 77), (1564, 1562, 1563, 77), (1580, 1578, 1579, 77), (1584, 1582, 1583, 77), (1595, 1594, 0, 77), (1599, 1598, 45, 77), (1592, 1591, 44, 77), (1588, 1586, 1587, 77), (1615, 1614, 46, 77), (1603, 1601, 1602, 77), (1607, 1605, 1606, 77), (1611, 1609, 1610, 77), (1619, 1617, 1618, 77), (1631, 1630, 48, 77), (1627, 1626, 47, 77), (1623, 1621, 1622, 77), (1635, 1633, 1634, 77), (1639, 1637, 1638, 77), (1655, 1654, 51, 77), (1651, 1650, 50, 77), (1647, 1646, 49, 77), (1643, 1641, 1642, 77), (1663, 1662, 52, 77), (1659, 1657, 1658, 77), (1667, 1665, 1666, 77), (1671, 1669, 1670, 77), (1679, 1678, 53, 77), (1675, 1673, 1674, 77), (1683, 1681, 1682, 77), (1687, 1685, 1686, 77), (1691, 1689, 1690, 77), (1703, 1702, 55, 77), (1699, 1698, 54, 77), (1695, 1693, 1694, 77), (1713, 1712, 56, 77), (1709, 1707, 1708, 77), (1717, 1715, 1716, 77), (1721, 1719, 1720, 77), (1734, 1733, 58, 77), (1730, 1729, 57, 77), (1725, 1723, 1724, 77), (1742, 1741, 59, 77), (1738, 1736, 1737, 77), (1755, 1754, 61, 77), (1751, 1750, 60, 77), (1760, 1759, 62, 77), (1746, 1744, 1745, 77), (815, 814, 0, 80), (551, 550, 0, 78), (769, 768, 0, 78), (554, 553, 0, 78), (734, 733, 0, 78), (98, 97, 0, 66), (0, 0, 0, 0)]
end
section
/-! the lists of part 03 against the machine's own decoding and the tables' words -/
def mT (ci j : Nat) : String × String × String × Bool := ((vwCl[ci]?).map fun q => q.2.1 j).getD ("", "", "", false)
def mNf (ci : Nat) : Nat := ((vwCl[ci]?).map fun q => q.2.2).getD 0
def mOwn (k : Nat) : String := mOwns[k]?.getD ""
def mMeth (y : Nat) : mQ := mMt[y]?.getD (⟨"", "", ""⟩, ⟨#[]⟩, 0, none, 0, 0, 0, 0, false)
def mTab (y : Nat) : List (Option mI) := mTabs[y]?.getD []
def mFk (d : String) : Option Nat := match parseFieldDescriptor d with
  | some .int => some 0
  | some .boolean => some 1
  | some .long => some 2
  | some (.array _) => some 3
  | some (.object _) => some 3
  | _ => none
def mAk (t : ArrayType) : Nat := match t with
  | .int => 0
  | .byte => 1
  | .boolean => 2
  | .long => 3
  | _ => 9
def mSwOk (pc : Int) (lo : Int) (k : Nat) (os : List Int) (sw : List (Int32 × Nat)) : Bool := match os, sw with
  | [], [] => true
  | x :: os', q :: sw' => decide (Int32.ofInt (lo + k) = q.1) && decide (pc + x = (q.2 : Int)) && mSwOk pc lo (k + 1) os' sw'
  | _, _ => false
def mLkOk (pc : Int) (ps : List (Int × Int)) (sw : List (Int32 × Nat)) : Bool := match ps, sw with
  | [], [] => true
  | x :: ps', q :: sw' => decide (Int32.ofInt x.1 = q.1) && decide (pc + x.2 = (q.2 : Int)) && decide (q.1.toInt = x.1) && mLkOk pc ps' sw'
  | _, _ => false
def mOk (own : Nat) (ini : Bool) (pc : Nat) (i : mI) : Bool := match i with
  | (ins, len, a1, a2, a3, v32, v64, sw) => match ins with
    | .iload_n k | .aload_n k | .lload_n k | .istore_n k | .astore_n k | .lstore_n k => Nat.beq k.val a1
    | .iload k | .lload k | .istore k | .lstore k => Nat.beq k a1
    | .iinc k n => Nat.beq k a1 && decide (Int32.ofInt n = v32)
    | .iconst n => decide (Int32.ofInt n = v32)
    | .bipush n => decide ((Int8.ofInt n).toInt32 = v32)
    | .sipush n => decide ((Int16.ofInt n).toInt32 = v32)
    | .lconst n => decide (Int64.ofNat n.val = v64)
    | .ldc x | .ldc_w x => mCI.any fun e => Nat.beq e.1 own && Nat.beq e.2.1 x && decide (e.2.2.1 = v32)
    | .ldc2_w x => mCJ.any fun e => Nat.beq e.1 own && Nat.beq e.2.1 x && decide (e.2.2.1 = v64)
    | .goto off | .if_icmp _ off | .ifCond _ off => decide ((pc : Int) + off = (a1 : Int))
    | .tableswitch d lo hi os => decide ((pc : Int) + d = (a1 : Int)) && decide (hi = lo + os.size - 1) && decide (-2147483648 ≤ lo ∧ hi ≤ 2147483647) && mSwOk pc lo 0 os.toList sw
    | .lookupswitch d ps => decide ((pc : Int) + d = (a1 : Int)) && mLkOk pc ps.toList sw && (ps.toList.zip (ps.toList.drop 1)).all (fun (a, next) => a.1 < next.1)
    | .getfield x => mFL.any fun e => Nat.beq e.1 own && Nat.beq e.2.1 x && Nat.beq e.2.2.1 a1 && Nat.beq e.2.2.2.1 a2
    | .putfield x => (mFL.any fun e => Nat.beq e.1 own && Nat.beq e.2.1 x && Nat.beq e.2.2.1 a1 && Nat.beq e.2.2.2.1 a2) && decide (mFk (mT a1 a2).2.2.1 = some a3) && (!(mT a1 a2).2.2.2 || (ini && decide ((mT a1 a2).1 = mOwn own)))
    | .getstatic x => mSL.any fun e => Nat.beq e.1 own && Nat.beq e.2.1 x && Nat.beq e.2.2.1 a1
    | .new x => (mNL.any fun e => Nat.beq e.1 own && Nat.beq e.2.1 x && Nat.beq e.2.2.1 a1) && Nat.beq a2 (mNf a1)
    | .newarray t => Nat.beq (mAk t) a1 && Nat.ble a1 3
    | .multianewarray x d => (mAL.any fun e => Nat.beq e.1 own && Nat.beq e.2.1 x) && Nat.beq d 2
    | .invokespecial x => bif Nat.beq a3 1 then (mOL.any fun e => Nat.beq e.1 own && Nat.beq e.2.1 x) else (mML.any fun e => Nat.beq e.1 own && Nat.beq e.2.1 x && Nat.beq e.2.2.1 a1) && Nat.beq (mMeth a1).2.2.2.2.2.2.1 a2 && !(mMeth a1).2.2.2.2.2.2.2.2 && decide ((mMeth a1).1.name = "<init>") && decide ((mMeth a1).2.2.2.1 = none)
    | .invokevirtual x => (mML.any fun e => Nat.beq e.1 own && Nat.beq e.2.1 x && Nat.beq e.2.2.1 a1) && Nat.beq (mMeth a1).2.2.2.2.2.2.1 a2 && !(mMeth a1).2.2.2.2.2.2.2.2 && Nat.beq (mMeth a1).2.2.2.2.1 a3 && !decide ((mMeth a1).1.name = "<init>") && Nat.blt a3 13
    | .invokestatic x => bif Nat.beq a3 1 then (mPL.any fun e => Nat.beq e.1 own && Nat.beq e.2.1 x) else (mML.any fun e => Nat.beq e.1 own && Nat.beq e.2.1 x && Nat.beq e.2.2.1 a1) && Nat.beq (mMeth a1).2.2.2.2.2.2.1 a2 && (mMeth a1).2.2.2.2.2.2.2.2
    | _ => true
def mChk (own : Nat) (ini : Bool) (code : ByteArray) : Nat → List (Option mI) → Bool
  | _, [] => true
  | pc, none :: t => mChk own ini code (pc + 1) t
  | pc, some i :: t => decide (decode code pc = .ok (i.1, i.2.1)) && mOk own ini pc i && mChk own ini code (pc + 1) t
theorem mChk_app {own : Nat} {ini : Bool} {code : ByteArray} : ∀ (a b : List (Option mI)) (pc : Nat), mChk own ini code pc a = true → mChk own ini code (pc + a.length) b = true → mChk own ini code pc (a ++ b) = true := by
  intro a
  induction a with
  | nil => intro b pc _ h; simpa using h
  | cons x t ih =>
    intro b pc h1 h2
    cases x with
    | none =>
      simp only [mChk, List.cons_append] at h1 ⊢
      exact ih b (pc + 1) h1 (by simpa [Nat.add_assoc, Nat.add_comm 1] using h2)
    | some i =>
      simp only [mChk, List.cons_append, Bool.and_eq_true] at h1 ⊢
      exact ⟨h1.1, ih b (pc + 1) h1.2 (by simpa [Nat.add_assoc, Nat.add_comm 1] using h2)⟩
theorem mChk_get {own : Nat} {ini : Bool} {code : ByteArray} : ∀ (a : List (Option mI)) (pc k : Nat) (i : mI), mChk own ini code pc a = true → a[k]? = some (some i) → decode code (pc + k) = .ok (i.1, i.2.1) ∧ mOk own ini (pc + k) i = true := by
  intro a
  induction a with
  | nil => intro pc k i _ h; simp at h
  | cons x t ih =>
    intro pc k i h1 h2
    cases k with
    | zero =>
      simp at h2
      subst h2
      simp only [mChk, Bool.and_eq_true, decide_eq_true_eq] at h1
      exact h1.1
    | succ k =>
      simp only [List.getElem?_cons_succ] at h2
      rw [show pc + (k + 1) = pc + 1 + k by omega]
      cases x with
      | none => exact ih (pc + 1) k i h1 h2
      | some j =>
        simp only [mChk, Bool.and_eq_true] at h1
        exact ih (pc + 1) k i h1.2 h2

theorem mc0 : mChk 0 true cX0_init 0 mK0 = true := by decide +kernel
theorem mc1 : mChk 0 false cX0_takeFrom 0 mK1 = true := by decide +kernel
theorem mc2 : mChk 0 false cX0_pass 0 mK2 = true := by decide +kernel
theorem mc3 : mChk 0 false cX0_firstAbove 0 mK3 = true := by decide +kernel
theorem mc4 : mChk 1 true cX1_init 0 mK4 = true := by decide +kernel
theorem mc5 : mChk 1 false cX1_add 0 mK5 = true := by decide +kernel
theorem mc6 : mChk 1 false cX1_bestFor 0 mK6 = true := by decide +kernel
theorem mc7 : mChk 1 false cX1_isBetter 0 mK7 = true := by decide +kernel
theorem mc8 : mChk 1 false cX1_costOf 0 mK8 = true := by decide +kernel
theorem mc9 : mChk 1 false cX1_worstOf 0 mK9 = true := by decide +kernel
theorem mc10 : mChk 1 false cX1_givenIn 0 mK10 = true := by decide +kernel
theorem mc11 : mChk 1 false cX1_mixed 0 mK11 = true := by decide +kernel
theorem mc12 : mChk 2 true cX2_init 0 mK12 = true := by decide +kernel
theorem mc13 : mChk 2 false cX2_add 0 mK13 = true := by decide +kernel
theorem mc14 : mChk 2 false cX2_goesOf 0 mK14 = true := by decide +kernel
theorem mc15 : mChk 2 false cX2_comesOf 0 mK15 = true := by decide +kernel
theorem mc16 : mChk 2 false cX2_driveBest 0 mK16 = true := by decide +kernel
theorem mc17 : mChk 2 false cX2_mostOf 0 mK17 = true := by decide +kernel
theorem mc18_0 : mChk 2 false cX2_send 0 mK18_0 = true := by decide +kernel
theorem mc18_1 : mChk 2 false cX2_send 120 mK18_1 = true := by decide +kernel
set_option maxHeartbeats 4000000 in
set_option maxRecDepth 100000 in
theorem mc18 : mChk 2 false cX2_send 0 mK18 = true := mChk_app _ _ _ mc18_0 (mc18_1)
theorem mc19 : mChk 2 false cX2_mixed 0 mK19 = true := by decide +kernel
theorem mc20 : mChk 3 true cX3_init 0 mK20 = true := by decide +kernel
theorem mc21 : mChk 3 false cX3_isOne 0 mK21 = true := by decide +kernel
theorem mc22 : mChk 3 false cX3_add 0 mK22 = true := by decide +kernel
theorem mc23 : mChk 3 false cX3_fallenAt 0 mK23 = true := by decide +kernel
theorem mc24 : mChk 3 false cX3_fallenAfter 0 mK24 = true := by decide +kernel
theorem mc25 : mChk 3 false cX3_left 0 mK25 = true := by decide +kernel
theorem mc26 : mChk 3 false cX3_leastPrice 0 mK26 = true := by decide +kernel
theorem mc27 : mChk 3 false cX3_mixed 0 mK27 = true := by decide +kernel
theorem mc28 : mChk 4 true cX4_init 0 mK28 = true := by decide +kernel
theorem mc29 : mChk 4 false cX4_addLeg 0 mK29 = true := by decide +kernel
theorem mc30 : mChk 4 false cX4_allHours 0 mK30 = true := by decide +kernel
theorem mc31 : mChk 4 false cX4_seaOf 0 mK31 = true := by decide +kernel
theorem mc32 : mChk 4 false cX4_nextWarmth 0 mK32 = true := by decide +kernel
theorem mc33 : mChk 4 false cX4_pull 0 mK33 = true := by decide +kernel
theorem mc34 : mChk 4 false cX4_mixed 0 mK34 = true := by decide +kernel
theorem mc35 : mChk 5 true cX5_init 0 mK35 = true := by decide +kernel
theorem mc36 : mChk 5 false cX5_isKind 0 mK36 = true := by decide +kernel
theorem mc37 : mChk 5 false cX5_isSuch 0 mK37 = true := by decide +kernel
theorem mc38 : mChk 5 false cX5_isOne 0 mK38 = true := by decide +kernel
theorem mc39 : mChk 5 false cX5_add 0 mK39 = true := by decide +kernel
theorem mc40 : mChk 5 false cX5_spoilIn 0 mK40 = true := by decide +kernel
theorem mc41 : mChk 5 false cX5_noteStates 0 mK41 = true := by decide +kernel
theorem mc42 : mChk 5 false cX5_lostIn 0 mK42 = true := by decide +kernel
theorem mc43_0 : mChk 5 false cX5_tell 0 mK43_0 = true := by decide +kernel
theorem mc43_1 : mChk 5 false cX5_tell 120 mK43_1 = true := by decide +kernel
set_option maxHeartbeats 4000000 in
set_option maxRecDepth 100000 in
theorem mc43 : mChk 5 false cX5_tell 0 mK43 = true := mChk_app _ _ _ mc43_0 (mc43_1)
theorem mc44 : mChk 5 false cX5_stateFrom 0 mK44 = true := by decide +kernel
theorem mc45 : mChk 5 false cX5_spoils 0 mK45 = true := by decide +kernel
theorem mc46 : mChk 5 false cX5_carcassSpoils 0 mK46 = true := by decide +kernel
theorem mc47 : mChk 5 false cX5_worth 0 mK47 = true := by decide +kernel
theorem mc48 : mChk 6 true cX6_init 0 mK48 = true := by decide +kernel
theorem mc49 : mChk 6 false cX6_add 0 mK49 = true := by decide +kernel
theorem mc50 : mChk 6 false cX6_run 0 mK50 = true := by decide +kernel
theorem mc51 : mChk 6 false cX6_priceIn 0 mK51 = true := by decide +kernel
theorem mc52 : mChk 6 false cX6_shippedIn 0 mK52 = true := by decide +kernel
theorem mc53 : mChk 6 false cX6_sellersAt 0 mK53 = true := by decide +kernel
theorem mc54 : mChk 6 false cX6_loadOf 0 mK54 = true := by decide +kernel
theorem mc55 : mChk 6 false cX6_tell 0 mK55 = true := by decide +kernel
theorem mc56 : mChk 6 false cX6_turn 0 mK56 = true := by decide +kernel
theorem mc57 : mChk 6 false cX6_alike 0 mK57 = true := by decide +kernel
theorem mc58 : mChk 6 false cX6_mixed 0 mK58 = true := by decide +kernel
theorem mc59 : mChk 7 true cX7_init 0 mK59 = true := by decide +kernel
theorem mc60 : mChk 7 false cX7_add 0 mK60 = true := by decide +kernel
theorem mc61 : mChk 7 false cX7_isRead 0 mK61 = true := by decide +kernel
theorem mc62 : mChk 7 false cX7_agree 0 mK62 = true := by decide +kernel
theorem mc63 : mChk 7 false cX7_least 0 mK63 = true := by decide +kernel
theorem mc64 : mChk 7 false cX7_greatest 0 mK64 = true := by decide +kernel
theorem mc65 : mChk 7 false cX7_above 0 mK65 = true := by decide +kernel
theorem mc66 : mChk 7 false cX7_mixed 0 mK66 = true := by decide +kernel
theorem mc67 : mChk 8 true cX8_init 0 mK67 = true := by decide +kernel
theorem mc68 : mChk 8 false cX8_add 0 mK68 = true := by decide +kernel
theorem mc69 : mChk 8 false cX8_allSets 0 mK69 = true := by decide +kernel
theorem mc70 : mChk 8 false cX8_isIn 0 mK70 = true := by decide +kernel
theorem mc71 : mChk 8 false cX8_shipsOf 0 mK71 = true := by decide +kernel
theorem mc72 : mChk 8 false cX8_earned 0 mK72 = true := by decide +kernel
theorem mc73 : mChk 8 false cX8_holds 0 mK73 = true := by decide +kernel
theorem mc74 : mChk 8 false cX8_howManyHold 0 mK74 = true := by decide +kernel
theorem mc75 : mChk 8 false cX8_greatestThatHolds 0 mK75 = true := by decide +kernel
theorem mc76 : mChk 8 false cX8_mixed 0 mK76 = true := by decide +kernel
theorem mc77 : mChk 9 true cX9_init 0 mK77 = true := by decide +kernel
theorem mc78 : mChk 9 false cX9_add 0 mK78 = true := by decide +kernel
theorem mc79 : mChk 9 false cX9_stackOf 0 mK79 = true := by decide +kernel
theorem mc80 : mChk 9 false cX9_layBest 0 mK80 = true := by decide +kernel
theorem mc81_0 : mChk 9 false cX9_place 0 mK81_0 = true := by decide +kernel
theorem mc81_1 : mChk 9 false cX9_place 120 mK81_1 = true := by decide +kernel
set_option maxHeartbeats 4000000 in
set_option maxRecDepth 100000 in
theorem mc81 : mChk 9 false cX9_place 0 mK81 = true := mChk_app _ _ _ mc81_0 (mc81_1)
theorem mc82 : mChk 9 false cX9_dugFrom 0 mK82 = true := by decide +kernel
theorem mc83 : mChk 10 true cX10_init 0 mK83 = true := by decide +kernel
theorem mc84 : mChk 10 false cX10_lettersIn 0 mK84 = true := by decide +kernel
theorem mc85 : mChk 10 false cX10_code 0 mK85 = true := by decide +kernel
theorem mc86 : mChk 10 false cX10_append 0 mK86 = true := by decide +kernel
theorem mc87 : mChk 10 false cX10_scan 0 mK87 = true := by decide +kernel
theorem mc88 : mChk 10 false cX10_after 0 mK88 = true := by decide +kernel
theorem mc89 : mChk 10 false cX10_intoFactor 0 mK89 = true := by decide +kernel
theorem mc90 : mChk 10 false cX10_behindFactor 0 mK90 = true := by decide +kernel
theorem mc91 : mChk 10 false cX10_isDigit 0 mK91 = true := by decide +kernel
theorem mc92 : mChk 10 false cX10_letterNumber 0 mK92 = true := by decide +kernel
theorem mc93 : mChk 10 false cX10_isWhole 0 mK93 = true := by decide +kernel
theorem mc94 : mChk 10 false cX10_keepPage 0 mK94 = true := by decide +kernel
theorem mc95 : mChk 10 false cX10_lastOf 0 mK95 = true := by decide +kernel
theorem mc96 : mChk 10 false cX10_holds 0 mK96 = true := by decide +kernel
theorem mc97 : mChk 10 false cX10_valueOf 0 mK97 = true := by decide +kernel
theorem mc98_0 : mChk 10 false cX10_value 0 mK98_0 = true := by decide +kernel
theorem mc98_1 : mChk 10 false cX10_value 120 mK98_1 = true := by decide +kernel
theorem mc98_2 : mChk 10 false cX10_value 240 mK98_2 = true := by decide +kernel
set_option maxHeartbeats 4000000 in
set_option maxRecDepth 100000 in
theorem mc98 : mChk 10 false cX10_value 0 mK98 = true := mChk_app _ _ _ mc98_0 (mChk_app _ _ _ mc98_1 (mc98_2))
theorem mc99 : mChk 10 false cX10_begin 0 mK99 = true := by decide +kernel
theorem mc100 : mChk 10 false cX10_named 0 mK100 = true := by decide +kernel
theorem mc101_0 : mChk 11 true cX11_init 0 mK101_0 = true := by decide +kernel
theorem mc101_1 : mChk 11 true cX11_init 120 mK101_1 = true := by decide +kernel
set_option maxHeartbeats 4000000 in
set_option maxRecDepth 100000 in
theorem mc101 : mChk 11 true cX11_init 0 mK101 = true := mChk_app _ _ _ mc101_0 (mc101_1)
theorem mc102 : mChk 11 false cX11_within 0 mK102 = true := by decide +kernel
theorem mc103 : mChk 11 false cX11_isCell 0 mK103 = true := by decide +kernel
theorem mc104 : mChk 11 false cX11_isWarmth 0 mK104 = true := by decide +kernel
theorem mc105 : mChk 11 false cX11_change 0 mK105 = true := by decide +kernel
theorem mc106 : mChk 11 false cX11_mix 0 mK106 = true := by decide +kernel
theorem mc107 : mChk 11 false cX11_mixRow 0 mK107 = true := by decide +kernel
theorem mc108 : mChk 11 false cX11_leg 0 mK108 = true := by decide +kernel
theorem mc109 : mChk 11 false cX11_warm 0 mK109 = true := by decide +kernel
theorem mc110 : mChk 11 false cX11_warmth 0 mK110 = true := by decide +kernel
theorem mc111 : mChk 11 false cX11_outer 0 mK111 = true := by decide +kernel
theorem mc112 : mChk 11 false cX11_pipe 0 mK112 = true := by decide +kernel
theorem mc113 : mChk 11 false cX11_engine 0 mK113 = true := by decide +kernel
theorem mc114 : mChk 11 false cX11_breaks 0 mK114 = true := by decide +kernel
theorem mc115 : mChk 11 false cX11_sea 0 mK115 = true := by decide +kernel
theorem mc116_0 : mChk 11 false cX11_hours 0 mK116_0 = true := by decide +kernel
theorem mc116_1 : mChk 11 false cX11_hours 120 mK116_1 = true := by decide +kernel
set_option maxHeartbeats 4000000 in
set_option maxRecDepth 100000 in
theorem mc116 : mChk 11 false cX11_hours 0 mK116 = true := mChk_app _ _ _ mc116_0 (mc116_1)
theorem mc117_0 : mChk 11 false cX11_first 0 mK117_0 = true := by decide +kernel
theorem mc117_1 : mChk 11 false cX11_first 120 mK117_1 = true := by decide +kernel
set_option maxHeartbeats 4000000 in
set_option maxRecDepth 100000 in
theorem mc117 : mChk 11 false cX11_first 0 mK117 = true := mChk_app _ _ _ mc117_0 (mc117_1)
theorem mc118 : mChk 11 false cX11_lot 0 mK118 = true := by decide +kernel
theorem mc119 : mChk 11 false cX11_lay 0 mK119 = true := by decide +kernel
theorem mc120 : mChk 11 false cX11_about 0 mK120 = true := by decide +kernel
theorem mc121 : mChk 11 false cX11_as 0 mK121 = true := by decide +kernel
theorem mc122 : mChk 11 false cX11_letters 0 mK122 = true := by decide +kernel
theorem mc123 : mChk 11 false cX11_blank 0 mK123 = true := by decide +kernel
theorem mc124 : mChk 11 false cX11_fault 0 mK124 = true := by decide +kernel
theorem mc125 : mChk 11 false cX11_text 0 mK125 = true := by decide +kernel
theorem mc126 : mChk 11 false cX11_says 0 mK126 = true := by decide +kernel
theorem mc127 : mChk 11 false cX11_sum 0 mK127 = true := by decide +kernel
theorem mc128 : mChk 11 false cX11_sumOf 0 mK128 = true := by decide +kernel
theorem mc129 : mChk 11 false cX11_lost 0 mK129 = true := by decide +kernel
theorem mc130 : mChk 11 false cX11_way 0 mK130 = true := by decide +kernel
theorem mc131_0 : mChk 11 false cX11_lostGoing 0 mK131_0 = true := by decide +kernel
theorem mc131_1 : mChk 11 false cX11_lostGoing 120 mK131_1 = true := by decide +kernel
set_option maxHeartbeats 4000000 in
set_option maxRecDepth 100000 in
theorem mc131 : mChk 11 false cX11_lostGoing 0 mK131 = true := mChk_app _ _ _ mc131_0 (mc131_1)
theorem mc132 : mChk 11 false cX11_reading 0 mK132 = true := by decide +kernel
theorem mc133 : mChk 11 false cX11_rate 0 mK133 = true := by decide +kernel
theorem mc134 : mChk 11 false cX11_could 0 mK134 = true := by decide +kernel
theorem mc135 : mChk 11 false cX11_was 0 mK135 = true := by decide +kernel
theorem mc136 : mChk 11 false cX11_arrive 0 mK136 = true := by decide +kernel
theorem mc137 : mChk 11 false cX11_laid 0 mK137 = true := by decide +kernel
theorem mc138 : mChk 11 false cX11_flock 0 mK138 = true := by decide +kernel
theorem mc139 : mChk 11 false cX11_works 0 mK139 = true := by decide +kernel
theorem mc140 : mChk 11 false cX11_days 0 mK140 = true := by decide +kernel
theorem mc141 : mChk 11 false cX11_loss 0 mK141 = true := by decide +kernel
theorem mc142 : mChk 11 false cX11_driven 0 mK142 = true := by decide +kernel
theorem mc143 : mChk 11 false cX11_market 0 mK143 = true := by decide +kernel
theorem mc144 : mChk 11 false cX11_seller 0 mK144 = true := by decide +kernel
theorem mc145 : mChk 11 false cX11_week 0 mK145 = true := by decide +kernel
theorem mc146 : mChk 11 false cX11_turns 0 mK146 = true := by decide +kernel
theorem mc147 : mChk 11 false cX11_farm 0 mK147 = true := by decide +kernel
theorem mc148 : mChk 11 false cX11_owe 0 mK148 = true := by decide +kernel
theorem mc149 : mChk 11 false cX11_falls 0 mK149 = true := by decide +kernel
theorem mc150 : mChk 11 false cX11_safe 0 mK150 = true := by decide +kernel
theorem mc151 : mChk 11 false cX11_line 0 mK151 = true := by decide +kernel
theorem mc152 : mChk 11 false cX11_ring 0 mK152 = true := by decide +kernel
theorem mc153 : mChk 11 false cX11_earns 0 mK153 = true := by decide +kernel
theorem mc154 : mChk 11 false cX11_stable 0 mK154 = true := by decide +kernel
theorem mc155 : mChk 11 false cX11_choice 0 mK155 = true := by decide +kernel
theorem mc156 : mChk 11 false cX11_gives 0 mK156 = true := by decide +kernel
theorem mc157 : mChk 11 false cX11_plan 0 mK157 = true := by decide +kernel
theorem mc158 : mChk 11 false cX11_count 0 mK158 = true := by decide +kernel
theorem mc159_0 : mChk 11 false cX11_howMany 0 mK159_0 = true := by decide +kernel
theorem mc159_1 : mChk 11 false cX11_howMany 120 mK159_1 = true := by decide +kernel
set_option maxHeartbeats 4000000 in
set_option maxRecDepth 100000 in
theorem mc159 : mChk 11 false cX11_howMany 0 mK159 = true := mChk_app _ _ _ mc159_0 (mc159_1)
theorem mc160_0 : mChk 11 false cX11_digest 0 mK160_0 = true := by decide +kernel
theorem mc160_1 : mChk 11 false cX11_digest 120 mK160_1 = true := by decide +kernel
set_option maxHeartbeats 4000000 in
set_option maxRecDepth 100000 in
theorem mc160 : mChk 11 false cX11_digest 0 mK160 = true := mChk_app _ _ _ mc160_0 (mc160_1)
theorem mc161 : mChk 11 false cX11_mixLots 0 mK161 = true := by decide +kernel
theorem mc162 : mChk 11 false cX11_mixSums 0 mK162 = true := by decide +kernel
theorem mc163_0 : mChk 12 true cX12_init 0 mK163_0 = true := by decide +kernel
theorem mc163_1 : mChk 12 true cX12_init 120 mK163_1 = true := by decide +kernel
theorem mc163_2 : mChk 12 true cX12_init 240 mK163_2 = true := by decide +kernel
theorem mc163_3 : mChk 12 true cX12_init 360 mK163_3 = true := by decide +kernel
set_option maxHeartbeats 4000000 in
set_option maxRecDepth 100000 in
theorem mc163 : mChk 12 true cX12_init 0 mK163 = true := mChk_app _ _ _ mc163_0 (mChk_app _ _ _ mc163_1 (mChk_app _ _ _ mc163_2 (mc163_3)))
theorem mc164 : mChk 12 false cX12_in 0 mK164 = true := by decide +kernel
theorem mc165 : mChk 12 false cX12_isCell 0 mK165 = true := by decide +kernel
theorem mc166 : mChk 12 false cX12_floorBy 0 mK166 = true := by decide +kernel
theorem mc167 : mChk 12 false cX12_leg 0 mK167 = true := by decide +kernel
theorem mc168 : mChk 12 false cX12_warm 0 mK168 = true := by decide +kernel
theorem mc169 : mChk 12 false cX12_warmth 0 mK169 = true := by decide +kernel
theorem mc170 : mChk 12 false cX12_outer 0 mK170 = true := by decide +kernel
theorem mc171 : mChk 12 false cX12_pipe 0 mK171 = true := by decide +kernel
theorem mc172_0 : mChk 12 false cX12_engine 0 mK172_0 = true := by decide +kernel
theorem mc172_1 : mChk 12 false cX12_engine 120 mK172_1 = true := by decide +kernel
set_option maxHeartbeats 4000000 in
set_option maxRecDepth 100000 in
theorem mc172 : mChk 12 false cX12_engine 0 mK172 = true := mChk_app _ _ _ mc172_0 (mc172_1)
theorem mc173 : mChk 12 false cX12_breaks 0 mK173 = true := by decide +kernel
theorem mc174 : mChk 12 false cX12_seaOf 0 mK174 = true := by decide +kernel
theorem mc175 : mChk 12 false cX12_sea 0 mK175 = true := by decide +kernel
theorem mc176 : mChk 12 false cX12_startAsNow 0 mK176 = true := by decide +kernel
theorem mc177 : mChk 12 false cX12_besides 0 mK177 = true := by decide +kernel
theorem mc178_0 : mChk 12 false cX12_anHour 0 mK178_0 = true := by decide +kernel
theorem mc178_1 : mChk 12 false cX12_anHour 120 mK178_1 = true := by decide +kernel
set_option maxHeartbeats 4000000 in
set_option maxRecDepth 100000 in
theorem mc178 : mChk 12 false cX12_anHour 0 mK178 = true := mChk_app _ _ _ mc178_0 (mc178_1)
theorem mc179 : mChk 12 false cX12_spoils 0 mK179 = true := by decide +kernel
theorem mc180 : mChk 12 false cX12_stateOf 0 mK180 = true := by decide +kernel
theorem mc181_0 : mChk 12 false cX12_hours 0 mK181_0 = true := by decide +kernel
theorem mc181_1 : mChk 12 false cX12_hours 120 mK181_1 = true := by decide +kernel
set_option maxHeartbeats 4000000 in
set_option maxRecDepth 100000 in
theorem mc181 : mChk 12 false cX12_hours 0 mK181 = true := mChk_app _ _ _ mc181_0 (mc181_1)
theorem mc182 : mChk 12 false cX12_above 0 mK182 = true := by decide +kernel
theorem mc183 : mChk 12 false cX12_first 0 mK183 = true := by decide +kernel
theorem mc184 : mChk 12 false cX12_isLot 0 mK184 = true := by decide +kernel
theorem mc185_0 : mChk 12 false cX12_lot 0 mK185_0 = true := by decide +kernel
theorem mc185_1 : mChk 12 false cX12_lot 120 mK185_1 = true := by decide +kernel
set_option maxHeartbeats 4000000 in
set_option maxRecDepth 100000 in
theorem mc185 : mChk 12 false cX12_lot 0 mK185 = true := mChk_app _ _ _ mc185_0 (mc185_1)
theorem mc186 : mChk 12 false cX12_lay 0 mK186 = true := by decide +kernel
theorem mc187 : mChk 12 false cX12_worthOf 0 mK187 = true := by decide +kernel
theorem mc188 : mChk 12 false cX12_aboutOf 0 mK188 = true := by decide +kernel
theorem mc189 : mChk 12 false cX12_about 0 mK189 = true := by decide +kernel
theorem mc190 : mChk 12 false cX12_as 0 mK190 = true := by decide +kernel
theorem mc191_0 : mChk 12 false cX12_letters 0 mK191_0 = true := by decide +kernel
theorem mc191_1 : mChk 12 false cX12_letters 120 mK191_1 = true := by decide +kernel
set_option maxHeartbeats 4000000 in
set_option maxRecDepth 100000 in
theorem mc191 : mChk 12 false cX12_letters 0 mK191 = true := mChk_app _ _ _ mc191_0 (mc191_1)
theorem mc192 : mChk 12 false cX12_blank 0 mK192 = true := by decide +kernel
theorem mc193 : mChk 12 false cX12_isMark 0 mK193 = true := by decide +kernel
theorem mc194_0 : mChk 12 false cX12_readText 0 mK194_0 = true := by decide +kernel
theorem mc194_1 : mChk 12 false cX12_readText 120 mK194_1 = true := by decide +kernel
theorem mc194_2 : mChk 12 false cX12_readText 240 mK194_2 = true := by decide +kernel
set_option maxHeartbeats 4000000 in
set_option maxRecDepth 100000 in
theorem mc194 : mChk 12 false cX12_readText 0 mK194 = true := mChk_app _ _ _ mc194_0 (mChk_app _ _ _ mc194_1 (mc194_2))
theorem mc195 : mChk 12 false cX12_fault 0 mK195 = true := by decide +kernel
theorem mc196 : mChk 12 false cX12_text 0 mK196 = true := by decide +kernel
theorem mc197 : mChk 12 false cX12_openSum 0 mK197 = true := by decide +kernel
theorem mc198 : mChk 12 false cX12_closeSum 0 mK198 = true := by decide +kernel
theorem mc199_0 : mChk 12 false cX12_sumFrom 0 mK199_0 = true := by decide +kernel
theorem mc199_1 : mChk 12 false cX12_sumFrom 120 mK199_1 = true := by decide +kernel
theorem mc199_2 : mChk 12 false cX12_sumFrom 240 mK199_2 = true := by decide +kernel
set_option maxHeartbeats 4000000 in
set_option maxRecDepth 100000 in
theorem mc199 : mChk 12 false cX12_sumFrom 0 mK199 = true := mChk_app _ _ _ mc199_0 (mChk_app _ _ _ mc199_1 (mc199_2))
theorem mc200 : mChk 12 false cX12_markOf 0 mK200 = true := by decide +kernel
theorem mc201 : mChk 12 false cX12_sumOf 0 mK201 = true := by decide +kernel
theorem mc202_0 : mChk 12 false cX12_says 0 mK202_0 = true := by decide +kernel
theorem mc202_1 : mChk 12 false cX12_says 120 mK202_1 = true := by decide +kernel
set_option maxHeartbeats 4000000 in
set_option maxRecDepth 100000 in
theorem mc202 : mChk 12 false cX12_says 0 mK202 = true := mChk_app _ _ _ mc202_0 (mc202_1)
theorem mc203 : mChk 12 false cX12_sum 0 mK203 = true := by decide +kernel
theorem mc204_0 : mChk 12 false cX12_lostBy 0 mK204_0 = true := by decide +kernel
theorem mc204_1 : mChk 12 false cX12_lostBy 120 mK204_1 = true := by decide +kernel
set_option maxHeartbeats 4000000 in
set_option maxRecDepth 100000 in
theorem mc204 : mChk 12 false cX12_lostBy 0 mK204 = true := mChk_app _ _ _ mc204_0 (mc204_1)
theorem mc205 : mChk 12 false cX12_lost 0 mK205 = true := by decide +kernel
theorem mc206 : mChk 12 false cX12_way 0 mK206 = true := by decide +kernel
theorem mc207 : mChk 12 false cX12_reading 0 mK207 = true := by decide +kernel
theorem mc208 : mChk 12 false cX12_rate 0 mK208 = true := by decide +kernel
theorem mc209 : mChk 12 false cX12_reach 0 mK209 = true := by decide +kernel
theorem mc210 : mChk 12 false cX12_couldBe 0 mK210 = true := by decide +kernel
theorem mc211 : mChk 12 false cX12_goTogether 0 mK211 = true := by decide +kernel
theorem mc212 : mChk 12 false cX12_could 0 mK212 = true := by decide +kernel
theorem mc213 : mChk 12 false cX12_was 0 mK213 = true := by decide +kernel
theorem mc214 : mChk 12 false cX12_arrive 0 mK214 = true := by decide +kernel
theorem mc215 : mChk 12 false cX12_ones 0 mK215 = true := by decide +kernel
theorem mc216 : mChk 12 false cX12_dugWith 0 mK216 = true := by decide +kernel
theorem mc217_0 : mChk 12 false cX12_seekLaid 0 mK217_0 = true := by decide +kernel
theorem mc217_1 : mChk 12 false cX12_seekLaid 120 mK217_1 = true := by decide +kernel
theorem mc217_2 : mChk 12 false cX12_seekLaid 240 mK217_2 = true := by decide +kernel
set_option maxHeartbeats 4000000 in
set_option maxRecDepth 100000 in
theorem mc217 : mChk 12 false cX12_seekLaid 0 mK217 = true := mChk_app _ _ _ mc217_0 (mChk_app _ _ _ mc217_1 (mc217_2))
theorem mc218 : mChk 12 false cX12_laid 0 mK218 = true := by decide +kernel
theorem mc219 : mChk 12 false cX12_isFlock 0 mK219 = true := by decide +kernel
theorem mc220 : mChk 12 false cX12_flock 0 mK220 = true := by decide +kernel
theorem mc221 : mChk 12 false cX12_works 0 mK221 = true := by decide +kernel
theorem mc222 : mChk 12 false cX12_days 0 mK222 = true := by decide +kernel
theorem mc223 : mChk 12 false cX12_loss 0 mK223 = true := by decide +kernel
theorem mc224 : mChk 12 false cX12_comesOf 0 mK224 = true := by decide +kernel
theorem mc225_0 : mChk 12 false cX12_seekDriven 0 mK225_0 = true := by decide +kernel
theorem mc225_1 : mChk 12 false cX12_seekDriven 120 mK225_1 = true := by decide +kernel
set_option maxHeartbeats 4000000 in
set_option maxRecDepth 100000 in
theorem mc225 : mChk 12 false cX12_seekDriven 0 mK225 = true := mChk_app _ _ _ mc225_0 (mc225_1)
theorem mc226 : mChk 12 false cX12_driven 0 mK226 = true := by decide +kernel
theorem mc227_0 : mChk 12 false cX12_market 0 mK227_0 = true := by decide +kernel
theorem mc227_1 : mChk 12 false cX12_market 120 mK227_1 = true := by decide +kernel
set_option maxHeartbeats 4000000 in
set_option maxRecDepth 100000 in
theorem mc227 : mChk 12 false cX12_market 0 mK227 = true := mChk_app _ _ _ mc227_0 (mc227_1)
theorem mc228 : mChk 12 false cX12_seller 0 mK228 = true := by decide +kernel
theorem mc229 : mChk 12 false cX12_priceAt 0 mK229 = true := by decide +kernel
theorem mc230 : mChk 12 false cX12_shippedAt 0 mK230 = true := by decide +kernel
theorem mc231 : mChk 12 false cX12_goWeeks 0 mK231 = true := by decide +kernel
theorem mc232_0 : mChk 12 false cX12_week 0 mK232_0 = true := by decide +kernel
theorem mc232_1 : mChk 12 false cX12_week 120 mK232_1 = true := by decide +kernel
set_option maxHeartbeats 4000000 in
set_option maxRecDepth 100000 in
theorem mc232 : mChk 12 false cX12_week 0 mK232 = true := mChk_app _ _ _ mc232_0 (mc232_1)
theorem mc233 : mChk 12 false cX12_isAgain 0 mK233 = true := by decide +kernel
theorem mc234 : mChk 12 false cX12_turns 0 mK234 = true := by decide +kernel
theorem mc235 : mChk 12 false cX12_farm 0 mK235 = true := by decide +kernel
theorem mc236 : mChk 12 false cX12_owe 0 mK236 = true := by decide +kernel
theorem mc237_0 : mChk 12 false cX12_fallenAt 0 mK237_0 = true := by decide +kernel
theorem mc237_1 : mChk 12 false cX12_fallenAt 120 mK237_1 = true := by decide +kernel
set_option maxHeartbeats 4000000 in
set_option maxRecDepth 100000 in
theorem mc237 : mChk 12 false cX12_fallenAt 0 mK237 = true := mChk_app _ _ _ mc237_0 (mc237_1)
theorem mc238 : mChk 12 false cX12_falls 0 mK238 = true := by decide +kernel
theorem mc239 : mChk 12 false cX12_safe 0 mK239 = true := by decide +kernel
theorem mc240 : mChk 12 false cX12_line 0 mK240 = true := by decide +kernel
theorem mc241_0 : mChk 12 false cX12_ring 0 mK241_0 = true := by decide +kernel
theorem mc241_1 : mChk 12 false cX12_ring 120 mK241_1 = true := by decide +kernel
set_option maxHeartbeats 4000000 in
set_option maxRecDepth 100000 in
theorem mc241 : mChk 12 false cX12_ring 0 mK241 = true := mChk_app _ _ _ mc241_0 (mc241_1)
theorem mc242 : mChk 12 false cX12_shipsIn 0 mK242 = true := by decide +kernel
theorem mc243 : mChk 12 false cX12_earnsOf 0 mK243 = true := by decide +kernel
theorem mc244 : mChk 12 false cX12_earns 0 mK244 = true := by decide +kernel
theorem mc245 : mChk 12 false cX12_isStable 0 mK245 = true := by decide +kernel
theorem mc246 : mChk 12 false cX12_stable 0 mK246 = true := by decide +kernel
theorem mc247 : mChk 12 false cX12_choice 0 mK247 = true := by decide +kernel
theorem mc248 : mChk 12 false cX12_gives 0 mK248 = true := by decide +kernel
theorem mc249 : mChk 12 false cX12_worstOf 0 mK249 = true := by decide +kernel
theorem mc250 : mChk 12 false cX12_costOf 0 mK250 = true := by decide +kernel
theorem mc251_0 : mChk 12 false cX12_plan 0 mK251_0 = true := by decide +kernel
theorem mc251_1 : mChk 12 false cX12_plan 120 mK251_1 = true := by decide +kernel
set_option maxHeartbeats 4000000 in
set_option maxRecDepth 100000 in
theorem mc251 : mChk 12 false cX12_plan 0 mK251 = true := mChk_app _ _ _ mc251_0 (mc251_1)
theorem mc252_0 : mChk 12 false cX12_countOf 0 mK252_0 = true := by decide +kernel
theorem mc252_1 : mChk 12 false cX12_countOf 120 mK252_1 = true := by decide +kernel
set_option maxHeartbeats 4000000 in
set_option maxRecDepth 100000 in
theorem mc252 : mChk 12 false cX12_countOf 0 mK252 = true := mChk_app _ _ _ mc252_0 (mc252_1)
theorem mc253 : mChk 12 false cX12_count 0 mK253 = true := by decide +kernel
theorem mc254 : mChk 12 false cX12_mix 0 mK254 = true := by decide +kernel
theorem mc255_0 : mChk 12 false cX12_mixHold 0 mK255_0 = true := by decide +kernel
theorem mc255_1 : mChk 12 false cX12_mixHold 120 mK255_1 = true := by decide +kernel
theorem mc255_2 : mChk 12 false cX12_mixHold 240 mK255_2 = true := by decide +kernel
set_option maxHeartbeats 4000000 in
set_option maxRecDepth 100000 in
theorem mc255 : mChk 12 false cX12_mixHold 0 mK255 = true := mChk_app _ _ _ mc255_0 (mChk_app _ _ _ mc255_1 (mc255_2))
theorem mc256_0 : mChk 12 false cX12_mixLand 0 mK256_0 = true := by decide +kernel
theorem mc256_1 : mChk 12 false cX12_mixLand 120 mK256_1 = true := by decide +kernel
theorem mc256_2 : mChk 12 false cX12_mixLand 240 mK256_2 = true := by decide +kernel
set_option maxHeartbeats 4000000 in
set_option maxRecDepth 100000 in
theorem mc256 : mChk 12 false cX12_mixLand 0 mK256 = true := mChk_app _ _ _ mc256_0 (mChk_app _ _ _ mc256_1 (mc256_2))
theorem mc257_0 : mChk 12 false cX12_digest 0 mK257_0 = true := by decide +kernel
theorem mc257_1 : mChk 12 false cX12_digest 120 mK257_1 = true := by decide +kernel
set_option maxHeartbeats 4000000 in
set_option maxRecDepth 100000 in
theorem mc257 : mChk 12 false cX12_digest 0 mK257 = true := mChk_app _ _ _ mc257_0 (mc257_1)
theorem mc258 : mChk 13 false cJ6_bitCount_0f7a4 0 mK258 = true := by decide +kernel
theorem mc259 : mChk 14 false cJ9_floorDiv_7cf53 0 mK259 = true := by decide +kernel
theorem mc260 : mChk 14 false cJ9_abs_0f7a4 0 mK260 = true := by decide +kernel
theorem mc261 : mChk 14 false cJ9_max_7cf53 0 mK261 = true := by decide +kernel
theorem mc262 : mChk 14 false cJ9_min_7cf53 0 mK262 = true := by decide +kernel
theorem mc263 : mChk 15 false cJ7_fill_53178 0 mK263 = true := by decide +kernel
theorem mc264_0 : mChk 16 false cL_law 0 mK264_0 = true := by decide +kernel
theorem mc264_1 : mChk 16 false cL_law 120 mK264_1 = true := by decide +kernel
theorem mc264_2 : mChk 16 false cL_law 240 mK264_2 = true := by decide +kernel
theorem mc264_3 : mChk 16 false cL_law 360 mK264_3 = true := by decide +kernel
theorem mc264_4 : mChk 16 false cL_law 480 mK264_4 = true := by decide +kernel
theorem mc264_5 : mChk 16 false cL_law 600 mK264_5 = true := by decide +kernel
theorem mc264_6 : mChk 16 false cL_law 720 mK264_6 = true := by decide +kernel
theorem mc264_7 : mChk 16 false cL_law 840 mK264_7 = true := by decide +kernel
theorem mc264_8 : mChk 16 false cL_law 960 mK264_8 = true := by decide +kernel
theorem mc264_9 : mChk 16 false cL_law 1080 mK264_9 = true := by decide +kernel
theorem mc264_10 : mChk 16 false cL_law 1200 mK264_10 = true := by decide +kernel
theorem mc264_11 : mChk 16 false cL_law 1320 mK264_11 = true := by decide +kernel
theorem mc264_12 : mChk 16 false cL_law 1440 mK264_12 = true := by decide +kernel
theorem mc264_13 : mChk 16 false cL_law 1560 mK264_13 = true := by decide +kernel
theorem mc264_14 : mChk 16 false cL_law 1680 mK264_14 = true := by decide +kernel
set_option maxHeartbeats 4000000 in
set_option maxRecDepth 100000 in
theorem mc264 : mChk 16 false cL_law 0 mK264 = true := mChk_app _ _ _ mc264_0 (mChk_app _ _ _ mc264_1 (mChk_app _ _ _ mc264_2 (mChk_app _ _ _ mc264_3 (mChk_app _ _ _ mc264_4 (mChk_app _ _ _ mc264_5 (mChk_app _ _ _ mc264_6 (mChk_app _ _ _ mc264_7 (mChk_app _ _ _ mc264_8 (mChk_app _ _ _ mc264_9 (mChk_app _ _ _ mc264_10 (mChk_app _ _ _ mc264_11 (mChk_app _ _ _ mc264_12 (mChk_app _ _ _ mc264_13 (mc264_14))))))))))))))
end
section
/-! the links of part 03 are words of the tables; each method has its words there -/
def mCn (ci : Nat) : String := ((vwCl[ci]?).map fun q => q.1).getD ""
def mSn : List (String × String) := [("ColdHolds$Hold", "LEAST_SET"), ("ColdHolds$Hold", "MOST_SET"), ("ColdHolds$Market", "LEAST_SET"), ("ColdHolds$Market", "MOST_SET"), ("ColdHolds$Ring", "MOST_SET")]
def mIs (p : Nat) (w : Jvm.Cond) : Bool := decide (lw_tbl[p]? = some w)
theorem mIs_mem {p : Nat} {w : Jvm.Cond} (h : mIs p w = true) : w ∈ lw_tbl := List.mem_of_getElem? (of_decide_eq_true h)
def mBd (w : Jvm.Cond) : Bool := match w with
  | .methodLinkNest .. | .arrayOver _ | .laysStatic .. | .privateMethod _ => true
  | _ => false
theorem mGood : (lw_tbl.all fun w => goodWord w || mBd w) = true := by decide +kernel
/-- the words that stay good while tables warm -/
def mGw : List Jvm.Cond := lw_tbl.filter goodWord
theorem mGw_in {w : Jvm.Cond} (h : w ∈ lw_tbl) (hb : mBd w = false) : w ∈ mGw := List.mem_filter.mpr ⟨h, by
  have := List.all_eq_true.mp mGood w h
  rw [hb, Bool.or_false] at this
  exact this⟩
theorem mGw_good : GoodIn mGw mGw := fun w h => ⟨h, good_of_word (List.mem_filter.mp h).2⟩
def mLen (i : Instr) : Nat := match i with
  | .iload _ | .istore _ | .lload _ | .lstore _ | .aload _ | .astore _ | .bipush _ | .ldc _ | .newarray _ => 2
  | .sipush _ | .ldc_w _ | .ldc2_w _ | .iinc _ _ | .goto _ | .if_icmp _ _ | .ifCond _ _ | .getfield _ | .putfield _ | .getstatic _ | .new _ | .invokespecial _ | .invokestatic _ | .invokevirtual _ => 3
  | .multianewarray _ _ => 4
  | _ => 1
def mSwi (i : Instr) : Bool := match i with
  | .tableswitch _ _ _ _ | .lookupswitch _ _ => true
  | _ => false
theorem mLen_ok : (mTabs.all fun t => t.all fun o => match o with | none => true | some i => mSwi i.1 || Nat.beq i.2.1 (mLen i.1)) = true := by decide +kernel
theorem mFL_ok : (mFL.all fun e => mIs e.2.2.2.2 (.fieldLink (mOwn e.1) e.2.1 (mT e.2.2.1 e.2.2.2.1).1 (mT e.2.2.1 e.2.2.2.1).2.1 (mT e.2.2.1 e.2.2.2.1).2.2.1) && Nat.blt e.2.2.2.1 (mNf e.2.2.1) && Nat.blt e.2.2.1 13) = true := by decide +kernel
theorem mML_ok : (mML.all fun e => (bif Nat.beq e.2.2.2.1 0 then mIs e.2.2.2.2 (.methodLink (mOwn e.1) e.2.1 (mMeth e.2.2.1).1) else mIs e.2.2.2.2 (.methodLinkNest (mOwn e.1) e.2.1 (mMeth e.2.2.1).1 "ColdHolds")) && Nat.blt e.2.2.1 265) = true := by decide +kernel
theorem mCI_ok : (mCI.all fun e => mIs e.2.2.2 (.constant (mOwn e.1) e.2.1 e.2.2.1)) = true := by decide +kernel
theorem mCJ_ok : (mCJ.all fun e => mIs e.2.2.2 (.constantLong (mOwn e.1) e.2.1 e.2.2.1)) = true := by decide +kernel
theorem mNL_ok : (mNL.all fun e => mIs e.2.2.2 (.classLink (mOwn e.1) e.2.1 (mCn e.2.2.1)) && Nat.blt e.2.2.1 13) = true := by decide +kernel
theorem mSL_ok : (mSL.all fun e => mIs e.2.2.2 (.fieldLink (mOwn e.1) e.2.1 ((mSn[e.2.2.1]?).getD ("", "")).1 ((mSn[e.2.2.1]?).getD ("", "")).2 "[I") && Nat.blt e.2.2.1 5) = true := by decide +kernel
theorem mAL_ok : (mAL.all fun e => mIs e.2.2 (.classLink (mOwn e.1) e.2.1 "[[I")) = true := by decide +kernel
theorem mOL_ok : (mOL.all fun e => mIs e.2.2 (.methodLink (mOwn e.1) e.2.1 objectInit)) = true := by decide +kernel
theorem mPL_ok : (mPL.all fun e => mIs e.2.2 (.methodLink (mOwn e.1) e.2.1 arraycopyName)) = true := by decide +kernel
theorem mW_native : Jvm.Cond.native arraycopyName ∈ lw_tbl := mIs_mem (p := 557) (by decide +kernel)
theorem mW_cstat : Jvm.Cond.static arraycopyName ∈ lw_tbl := mIs_mem (p := 556) (by decide +kernel)
theorem mW_sys : Jvm.Cond.initialized "java/lang/System" ∈ lw_tbl := mIs_mem (p := 79) (by decide +kernel)
theorem mW_oinst : Jvm.Cond.instanceMethod objectInit ∈ lw_tbl := mIs_mem (p := 87) (by decide +kernel)
theorem mW_ocode : Jvm.Cond.code objectInit ⟨#[0xb1]⟩ 1 none ∈ lw_tbl := mIs_mem (p := 88) (by decide +kernel)
theorem mW_ai : Jvm.Cond.arrayClass .int ∈ lw_tbl := mIs_mem (p := 130) (by decide +kernel)
theorem mW_ab : Jvm.Cond.arrayClass .byte ∈ lw_tbl := mIs_mem (p := 1382) (by decide +kernel)
theorem mW_az : Jvm.Cond.arrayClass .boolean ∈ lw_tbl := mIs_mem (p := 1381) (by decide +kernel)
theorem mW_al : Jvm.Cond.arrayClass .long ∈ lw_tbl := mIs_mem (p := 244) (by decide +kernel)
theorem mW_ao : Jvm.Cond.arrayOver (.array .int) ∈ lw_tbl := mIs_mem (p := 163) (by decide +kernel)
def mCp : List (Nat × Nat) := [(132, 67), (422, 76), (301, 72), (375, 74), (90, 65), (157, 68), (348, 73), (246, 70), (401, 75), (267, 71), (185, 69), (82, 64), (1140, 77)]
theorem mCp_ok : ((List.range 13).all fun k => mIs ((mCp[k]?).getD (0, 0)).1 (.instantiable (mCn k) (mNf k)) && mIs ((mCp[k]?).getD (0, 0)).2 (.initialized (mCn k))) = true := by decide +kernel
def mPOk (y : Nat) (q : mQ) (p : Nat × Nat × Nat × Nat) : Bool := mIs p.2.2.2 (.initialized q.1.cls) && (bif q.2.2.2.2.2.2.2.2 then mIs p.2.1 (.static q.1) else mIs p.2.1 (.instanceMethod q.1)) && (q.2.2.2.2.2.2.2.2 || decide (q.1.name = "<init>") || mIs p.2.2.1 (.selects q.1.cls q.1 q.1))
  && decide (mOwn q.2.2.2.2.1 = q.1.cls) && plainFor q.1 && decide (q.1.cls ≠ "java/lang/invoke/MethodHandle" ∧ q.1.cls ≠ "java/lang/invoke/VarHandle" ∧ (parseMethodDescriptor q.1.desc).map (fun d => d.parameters.length) = some (q.2.2.2.2.2.2.1 - (bif q.2.2.2.2.2.2.2.2 then 0 else 1)))
  && Nat.ble q.2.2.2.2.2.2.2.1 q.2.2.1 && Nat.ble q.2.2.1 12 && (q.2.2.2.2.2.2.2.2 || (Nat.ble 1 q.2.2.2.2.2.2.1 && Nat.blt q.2.2.2.2.1 13 && decide (mCn q.2.2.2.2.1 = q.1.cls)))
  && decide (q.2.2.2.1 = match q.2.2.2.2.2.1 with | 0 => none | 1 => some .int | 2 => some .boolean | _ => some .long) && Nat.ble q.2.2.2.2.2.1 3
/-- for all numbers below a bound, one by one -/
theorem mAll0 {P : Nat → Prop} {b : Nat} : ∀ y, b ≤ y → y < b → P y := fun y h1 h2 => absurd h1 (by omega)
theorem mAllS {P : Nat → Prop} {b n : Nat} (h : ∀ y, b ≤ y → y < n → P y) (hn : P n) : ∀ y, b ≤ y → y < n + 1 → P y := fun y h1 h2 => by
  by_cases e : y = n
  · rw [e]; exact hn
  · exact h y h1 (by omega)
theorem mAllJ {P : Nat → Prop} {a b c : Nat} (h : ∀ y, a ≤ y → y < b → P y) (g : ∀ y, b ≤ y → y < c → P y) : ∀ y, a ≤ y → y < c → P y := fun y h1 h2 => by
  by_cases e : y < b
  · exact h y h1 e
  · exact g y (by omega) h2
theorem mPk0 : ((List.range 20).all fun k => mPOk (0 + k) (mMeth (0 + k)) ((mPs[0 + k]?).getD (0, 0, 0, 0))) = true := by decide +kernel
theorem mPk1 : ((List.range 20).all fun k => mPOk (20 + k) (mMeth (20 + k)) ((mPs[20 + k]?).getD (0, 0, 0, 0))) = true := by decide +kernel
theorem mPk2 : ((List.range 20).all fun k => mPOk (40 + k) (mMeth (40 + k)) ((mPs[40 + k]?).getD (0, 0, 0, 0))) = true := by decide +kernel
theorem mPk3 : ((List.range 20).all fun k => mPOk (60 + k) (mMeth (60 + k)) ((mPs[60 + k]?).getD (0, 0, 0, 0))) = true := by decide +kernel
theorem mPk4 : ((List.range 20).all fun k => mPOk (80 + k) (mMeth (80 + k)) ((mPs[80 + k]?).getD (0, 0, 0, 0))) = true := by decide +kernel
theorem mPk5 : ((List.range 20).all fun k => mPOk (100 + k) (mMeth (100 + k)) ((mPs[100 + k]?).getD (0, 0, 0, 0))) = true := by decide +kernel
theorem mPk6 : ((List.range 20).all fun k => mPOk (120 + k) (mMeth (120 + k)) ((mPs[120 + k]?).getD (0, 0, 0, 0))) = true := by decide +kernel
theorem mPk7 : ((List.range 20).all fun k => mPOk (140 + k) (mMeth (140 + k)) ((mPs[140 + k]?).getD (0, 0, 0, 0))) = true := by decide +kernel
theorem mPk8 : ((List.range 20).all fun k => mPOk (160 + k) (mMeth (160 + k)) ((mPs[160 + k]?).getD (0, 0, 0, 0))) = true := by decide +kernel
theorem mPk9 : ((List.range 20).all fun k => mPOk (180 + k) (mMeth (180 + k)) ((mPs[180 + k]?).getD (0, 0, 0, 0))) = true := by decide +kernel
theorem mPk10 : ((List.range 20).all fun k => mPOk (200 + k) (mMeth (200 + k)) ((mPs[200 + k]?).getD (0, 0, 0, 0))) = true := by decide +kernel
theorem mPk11 : ((List.range 20).all fun k => mPOk (220 + k) (mMeth (220 + k)) ((mPs[220 + k]?).getD (0, 0, 0, 0))) = true := by decide +kernel
theorem mPk12 : ((List.range 20).all fun k => mPOk (240 + k) (mMeth (240 + k)) ((mPs[240 + k]?).getD (0, 0, 0, 0))) = true := by decide +kernel
theorem mPk13 : ((List.range 4).all fun k => mPOk (260 + k) (mMeth (260 + k)) ((mPs[260 + k]?).getD (0, 0, 0, 0))) = true := by decide +kernel
def mPP (y : Nat) : Prop := mPOk y (mMeth y) ((mPs[y]?).getD (0, 0, 0, 0)) = true
theorem mPj0 : ∀ y, 0 ≤ y → y < 20 → mPP y := fun y h1 h2 => by
  have := List.all_eq_true.mp mPk0 (y - 0) (List.mem_range.mpr (by omega))
  rwa [show 0 + (y - 0) = y by omega] at this
theorem mPj1 : ∀ y, 20 ≤ y → y < 40 → mPP y := fun y h1 h2 => by
  have := List.all_eq_true.mp mPk1 (y - 20) (List.mem_range.mpr (by omega))
  rwa [show 20 + (y - 20) = y by omega] at this
theorem mPj2 : ∀ y, 40 ≤ y → y < 60 → mPP y := fun y h1 h2 => by
  have := List.all_eq_true.mp mPk2 (y - 40) (List.mem_range.mpr (by omega))
  rwa [show 40 + (y - 40) = y by omega] at this
theorem mPj3 : ∀ y, 60 ≤ y → y < 80 → mPP y := fun y h1 h2 => by
  have := List.all_eq_true.mp mPk3 (y - 60) (List.mem_range.mpr (by omega))
  rwa [show 60 + (y - 60) = y by omega] at this
theorem mPj4 : ∀ y, 80 ≤ y → y < 100 → mPP y := fun y h1 h2 => by
  have := List.all_eq_true.mp mPk4 (y - 80) (List.mem_range.mpr (by omega))
  rwa [show 80 + (y - 80) = y by omega] at this
theorem mPj5 : ∀ y, 100 ≤ y → y < 120 → mPP y := fun y h1 h2 => by
  have := List.all_eq_true.mp mPk5 (y - 100) (List.mem_range.mpr (by omega))
  rwa [show 100 + (y - 100) = y by omega] at this
theorem mPj6 : ∀ y, 120 ≤ y → y < 140 → mPP y := fun y h1 h2 => by
  have := List.all_eq_true.mp mPk6 (y - 120) (List.mem_range.mpr (by omega))
  rwa [show 120 + (y - 120) = y by omega] at this
theorem mPj7 : ∀ y, 140 ≤ y → y < 160 → mPP y := fun y h1 h2 => by
  have := List.all_eq_true.mp mPk7 (y - 140) (List.mem_range.mpr (by omega))
  rwa [show 140 + (y - 140) = y by omega] at this
theorem mPj8 : ∀ y, 160 ≤ y → y < 180 → mPP y := fun y h1 h2 => by
  have := List.all_eq_true.mp mPk8 (y - 160) (List.mem_range.mpr (by omega))
  rwa [show 160 + (y - 160) = y by omega] at this
theorem mPj9 : ∀ y, 180 ≤ y → y < 200 → mPP y := fun y h1 h2 => by
  have := List.all_eq_true.mp mPk9 (y - 180) (List.mem_range.mpr (by omega))
  rwa [show 180 + (y - 180) = y by omega] at this
theorem mPj10 : ∀ y, 200 ≤ y → y < 220 → mPP y := fun y h1 h2 => by
  have := List.all_eq_true.mp mPk10 (y - 200) (List.mem_range.mpr (by omega))
  rwa [show 200 + (y - 200) = y by omega] at this
theorem mPj11 : ∀ y, 220 ≤ y → y < 240 → mPP y := fun y h1 h2 => by
  have := List.all_eq_true.mp mPk11 (y - 220) (List.mem_range.mpr (by omega))
  rwa [show 220 + (y - 220) = y by omega] at this
theorem mPj12 : ∀ y, 240 ≤ y → y < 260 → mPP y := fun y h1 h2 => by
  have := List.all_eq_true.mp mPk12 (y - 240) (List.mem_range.mpr (by omega))
  rwa [show 240 + (y - 240) = y by omega] at this
theorem mPj13 : ∀ y, 260 ≤ y → y < 264 → mPP y := fun y h1 h2 => by
  have := List.all_eq_true.mp mPk13 (y - 260) (List.mem_range.mpr (by omega))
  rwa [show 260 + (y - 260) = y by omega] at this
theorem mPs_ok : ∀ y, 0 ≤ y → y < 264 → mPP y := mAllJ (mAllJ (mAllJ (mAllJ (mAllJ (mAllJ (mAllJ (mAllJ (mAllJ (mAllJ (mAllJ (mAllJ (mAllJ (mPj0) mPj1) mPj2) mPj3) mPj4) mPj5) mPj6) mPj7) mPj8) mPj9) mPj10) mPj11) mPj12) mPj13
def mCP (y : Nat) : Prop := lw_tbl[((mPs[y]?).getD (0, 0, 0, 0)).1]? = some (.code (mMeth y).1 (mMeth y).2.1 (mMeth y).2.2.1 (mMeth y).2.2.2.1)
def mInis : List Nat := [0, 4, 12, 20, 28, 35, 48, 59, 67, 77, 83, 101, 163]
def mIni (y : Nat) : Bool := mInis.any fun k => Nat.beq k y
theorem mInis_ok : (mInis.all fun y => decide ((mMeth y).1.name = "<init>")) = true := by decide +kernel
def mTP (y : Nat) : Prop := mChk (mMeth y).2.2.2.2.1 (mIni y) (mMeth y).2.1 0 (mTab y) = true
set_option maxHeartbeats 4000000 in
set_option maxRecDepth 100000 in
theorem mTab_ok_0 : ∀ y, 0 ≤ y → y < 24 → mTP y := mAllS (mAllS (mAllS (mAllS (mAllS (mAllS (mAllS (mAllS (mAllS (mAllS (mAllS (mAllS (mAllS (mAllS (mAllS (mAllS (mAllS (mAllS (mAllS (mAllS (mAllS (mAllS (mAllS (mAllS (mAll0) (show mTP 0 from mc0)) (show mTP 1 from mc1)) (show mTP 2 from mc2)) (show mTP 3 from mc3)) (show mTP 4 from mc4)) (show mTP 5 from mc5)) (show mTP 6 from mc6)) (show mTP 7 from mc7)) (show mTP 8 from mc8)) (show mTP 9 from mc9)) (show mTP 10 from mc10)) (show mTP 11 from mc11)) (show mTP 12 from mc12)) (show mTP 13 from mc13)) (show mTP 14 from mc14)) (show mTP 15 from mc15)) (show mTP 16 from mc16)) (show mTP 17 from mc17)) (show mTP 18 from mc18)) (show mTP 19 from mc19)) (show mTP 20 from mc20)) (show mTP 21 from mc21)) (show mTP 22 from mc22)) (show mTP 23 from mc23)
set_option maxHeartbeats 4000000 in
set_option maxRecDepth 100000 in
theorem mTab_ok_1 : ∀ y, 24 ≤ y → y < 48 → mTP y := mAllS (mAllS (mAllS (mAllS (mAllS (mAllS (mAllS (mAllS (mAllS (mAllS (mAllS (mAllS (mAllS (mAllS (mAllS (mAllS (mAllS (mAllS (mAllS (mAllS (mAllS (mAllS (mAllS (mAllS (mAll0) (show mTP 24 from mc24)) (show mTP 25 from mc25)) (show mTP 26 from mc26)) (show mTP 27 from mc27)) (show mTP 28 from mc28)) (show mTP 29 from mc29)) (show mTP 30 from mc30)) (show mTP 31 from mc31)) (show mTP 32 from mc32)) (show mTP 33 from mc33)) (show mTP 34 from mc34)) (show mTP 35 from mc35)) (show mTP 36 from mc36)) (show mTP 37 from mc37)) (show mTP 38 from mc38)) (show mTP 39 from mc39)) (show mTP 40 from mc40)) (show mTP 41 from mc41)) (show mTP 42 from mc42)) (show mTP 43 from mc43)) (show mTP 44 from mc44)) (show mTP 45 from mc45)) (show mTP 46 from mc46)) (show mTP 47 from mc47)
set_option maxHeartbeats 4000000 in
set_option maxRecDepth 100000 in
theorem mTab_ok_2 : ∀ y, 48 ≤ y → y < 72 → mTP y := mAllS (mAllS (mAllS (mAllS (mAllS (mAllS (mAllS (mAllS (mAllS (mAllS (mAllS (mAllS (mAllS (mAllS (mAllS (mAllS (mAllS (mAllS (mAllS (mAllS (mAllS (mAllS (mAllS (mAllS (mAll0) (show mTP 48 from mc48)) (show mTP 49 from mc49)) (show mTP 50 from mc50)) (show mTP 51 from mc51)) (show mTP 52 from mc52)) (show mTP 53 from mc53)) (show mTP 54 from mc54)) (show mTP 55 from mc55)) (show mTP 56 from mc56)) (show mTP 57 from mc57)) (show mTP 58 from mc58)) (show mTP 59 from mc59)) (show mTP 60 from mc60)) (show mTP 61 from mc61)) (show mTP 62 from mc62)) (show mTP 63 from mc63)) (show mTP 64 from mc64)) (show mTP 65 from mc65)) (show mTP 66 from mc66)) (show mTP 67 from mc67)) (show mTP 68 from mc68)) (show mTP 69 from mc69)) (show mTP 70 from mc70)) (show mTP 71 from mc71)
set_option maxHeartbeats 4000000 in
set_option maxRecDepth 100000 in
theorem mTab_ok_3 : ∀ y, 72 ≤ y → y < 96 → mTP y := mAllS (mAllS (mAllS (mAllS (mAllS (mAllS (mAllS (mAllS (mAllS (mAllS (mAllS (mAllS (mAllS (mAllS (mAllS (mAllS (mAllS (mAllS (mAllS (mAllS (mAllS (mAllS (mAllS (mAllS (mAll0) (show mTP 72 from mc72)) (show mTP 73 from mc73)) (show mTP 74 from mc74)) (show mTP 75 from mc75)) (show mTP 76 from mc76)) (show mTP 77 from mc77)) (show mTP 78 from mc78)) (show mTP 79 from mc79)) (show mTP 80 from mc80)) (show mTP 81 from mc81)) (show mTP 82 from mc82)) (show mTP 83 from mc83)) (show mTP 84 from mc84)) (show mTP 85 from mc85)) (show mTP 86 from mc86)) (show mTP 87 from mc87)) (show mTP 88 from mc88)) (show mTP 89 from mc89)) (show mTP 90 from mc90)) (show mTP 91 from mc91)) (show mTP 92 from mc92)) (show mTP 93 from mc93)) (show mTP 94 from mc94)) (show mTP 95 from mc95)
set_option maxHeartbeats 4000000 in
set_option maxRecDepth 100000 in
theorem mTab_ok_4 : ∀ y, 96 ≤ y → y < 120 → mTP y := mAllS (mAllS (mAllS (mAllS (mAllS (mAllS (mAllS (mAllS (mAllS (mAllS (mAllS (mAllS (mAllS (mAllS (mAllS (mAllS (mAllS (mAllS (mAllS (mAllS (mAllS (mAllS (mAllS (mAllS (mAll0) (show mTP 96 from mc96)) (show mTP 97 from mc97)) (show mTP 98 from mc98)) (show mTP 99 from mc99)) (show mTP 100 from mc100)) (show mTP 101 from mc101)) (show mTP 102 from mc102)) (show mTP 103 from mc103)) (show mTP 104 from mc104)) (show mTP 105 from mc105)) (show mTP 106 from mc106)) (show mTP 107 from mc107)) (show mTP 108 from mc108)) (show mTP 109 from mc109)) (show mTP 110 from mc110)) (show mTP 111 from mc111)) (show mTP 112 from mc112)) (show mTP 113 from mc113)) (show mTP 114 from mc114)) (show mTP 115 from mc115)) (show mTP 116 from mc116)) (show mTP 117 from mc117)) (show mTP 118 from mc118)) (show mTP 119 from mc119)
set_option maxHeartbeats 4000000 in
set_option maxRecDepth 100000 in
theorem mTab_ok_5 : ∀ y, 120 ≤ y → y < 144 → mTP y := mAllS (mAllS (mAllS (mAllS (mAllS (mAllS (mAllS (mAllS (mAllS (mAllS (mAllS (mAllS (mAllS (mAllS (mAllS (mAllS (mAllS (mAllS (mAllS (mAllS (mAllS (mAllS (mAllS (mAllS (mAll0) (show mTP 120 from mc120)) (show mTP 121 from mc121)) (show mTP 122 from mc122)) (show mTP 123 from mc123)) (show mTP 124 from mc124)) (show mTP 125 from mc125)) (show mTP 126 from mc126)) (show mTP 127 from mc127)) (show mTP 128 from mc128)) (show mTP 129 from mc129)) (show mTP 130 from mc130)) (show mTP 131 from mc131)) (show mTP 132 from mc132)) (show mTP 133 from mc133)) (show mTP 134 from mc134)) (show mTP 135 from mc135)) (show mTP 136 from mc136)) (show mTP 137 from mc137)) (show mTP 138 from mc138)) (show mTP 139 from mc139)) (show mTP 140 from mc140)) (show mTP 141 from mc141)) (show mTP 142 from mc142)) (show mTP 143 from mc143)
set_option maxHeartbeats 4000000 in
set_option maxRecDepth 100000 in
theorem mTab_ok_6 : ∀ y, 144 ≤ y → y < 168 → mTP y := mAllS (mAllS (mAllS (mAllS (mAllS (mAllS (mAllS (mAllS (mAllS (mAllS (mAllS (mAllS (mAllS (mAllS (mAllS (mAllS (mAllS (mAllS (mAllS (mAllS (mAllS (mAllS (mAllS (mAllS (mAll0) (show mTP 144 from mc144)) (show mTP 145 from mc145)) (show mTP 146 from mc146)) (show mTP 147 from mc147)) (show mTP 148 from mc148)) (show mTP 149 from mc149)) (show mTP 150 from mc150)) (show mTP 151 from mc151)) (show mTP 152 from mc152)) (show mTP 153 from mc153)) (show mTP 154 from mc154)) (show mTP 155 from mc155)) (show mTP 156 from mc156)) (show mTP 157 from mc157)) (show mTP 158 from mc158)) (show mTP 159 from mc159)) (show mTP 160 from mc160)) (show mTP 161 from mc161)) (show mTP 162 from mc162)) (show mTP 163 from mc163)) (show mTP 164 from mc164)) (show mTP 165 from mc165)) (show mTP 166 from mc166)) (show mTP 167 from mc167)
set_option maxHeartbeats 4000000 in
set_option maxRecDepth 100000 in
theorem mTab_ok_7 : ∀ y, 168 ≤ y → y < 192 → mTP y := mAllS (mAllS (mAllS (mAllS (mAllS (mAllS (mAllS (mAllS (mAllS (mAllS (mAllS (mAllS (mAllS (mAllS (mAllS (mAllS (mAllS (mAllS (mAllS (mAllS (mAllS (mAllS (mAllS (mAllS (mAll0) (show mTP 168 from mc168)) (show mTP 169 from mc169)) (show mTP 170 from mc170)) (show mTP 171 from mc171)) (show mTP 172 from mc172)) (show mTP 173 from mc173)) (show mTP 174 from mc174)) (show mTP 175 from mc175)) (show mTP 176 from mc176)) (show mTP 177 from mc177)) (show mTP 178 from mc178)) (show mTP 179 from mc179)) (show mTP 180 from mc180)) (show mTP 181 from mc181)) (show mTP 182 from mc182)) (show mTP 183 from mc183)) (show mTP 184 from mc184)) (show mTP 185 from mc185)) (show mTP 186 from mc186)) (show mTP 187 from mc187)) (show mTP 188 from mc188)) (show mTP 189 from mc189)) (show mTP 190 from mc190)) (show mTP 191 from mc191)
set_option maxHeartbeats 4000000 in
set_option maxRecDepth 100000 in
theorem mTab_ok_8 : ∀ y, 192 ≤ y → y < 216 → mTP y := mAllS (mAllS (mAllS (mAllS (mAllS (mAllS (mAllS (mAllS (mAllS (mAllS (mAllS (mAllS (mAllS (mAllS (mAllS (mAllS (mAllS (mAllS (mAllS (mAllS (mAllS (mAllS (mAllS (mAllS (mAll0) (show mTP 192 from mc192)) (show mTP 193 from mc193)) (show mTP 194 from mc194)) (show mTP 195 from mc195)) (show mTP 196 from mc196)) (show mTP 197 from mc197)) (show mTP 198 from mc198)) (show mTP 199 from mc199)) (show mTP 200 from mc200)) (show mTP 201 from mc201)) (show mTP 202 from mc202)) (show mTP 203 from mc203)) (show mTP 204 from mc204)) (show mTP 205 from mc205)) (show mTP 206 from mc206)) (show mTP 207 from mc207)) (show mTP 208 from mc208)) (show mTP 209 from mc209)) (show mTP 210 from mc210)) (show mTP 211 from mc211)) (show mTP 212 from mc212)) (show mTP 213 from mc213)) (show mTP 214 from mc214)) (show mTP 215 from mc215)
set_option maxHeartbeats 4000000 in
set_option maxRecDepth 100000 in
theorem mTab_ok_9 : ∀ y, 216 ≤ y → y < 240 → mTP y := mAllS (mAllS (mAllS (mAllS (mAllS (mAllS (mAllS (mAllS (mAllS (mAllS (mAllS (mAllS (mAllS (mAllS (mAllS (mAllS (mAllS (mAllS (mAllS (mAllS (mAllS (mAllS (mAllS (mAllS (mAll0) (show mTP 216 from mc216)) (show mTP 217 from mc217)) (show mTP 218 from mc218)) (show mTP 219 from mc219)) (show mTP 220 from mc220)) (show mTP 221 from mc221)) (show mTP 222 from mc222)) (show mTP 223 from mc223)) (show mTP 224 from mc224)) (show mTP 225 from mc225)) (show mTP 226 from mc226)) (show mTP 227 from mc227)) (show mTP 228 from mc228)) (show mTP 229 from mc229)) (show mTP 230 from mc230)) (show mTP 231 from mc231)) (show mTP 232 from mc232)) (show mTP 233 from mc233)) (show mTP 234 from mc234)) (show mTP 235 from mc235)) (show mTP 236 from mc236)) (show mTP 237 from mc237)) (show mTP 238 from mc238)) (show mTP 239 from mc239)
set_option maxHeartbeats 4000000 in
set_option maxRecDepth 100000 in
theorem mTab_ok_10 : ∀ y, 240 ≤ y → y < 264 → mTP y := mAllS (mAllS (mAllS (mAllS (mAllS (mAllS (mAllS (mAllS (mAllS (mAllS (mAllS (mAllS (mAllS (mAllS (mAllS (mAllS (mAllS (mAllS (mAllS (mAllS (mAllS (mAllS (mAllS (mAllS (mAll0) (show mTP 240 from mc240)) (show mTP 241 from mc241)) (show mTP 242 from mc242)) (show mTP 243 from mc243)) (show mTP 244 from mc244)) (show mTP 245 from mc245)) (show mTP 246 from mc246)) (show mTP 247 from mc247)) (show mTP 248 from mc248)) (show mTP 249 from mc249)) (show mTP 250 from mc250)) (show mTP 251 from mc251)) (show mTP 252 from mc252)) (show mTP 253 from mc253)) (show mTP 254 from mc254)) (show mTP 255 from mc255)) (show mTP 256 from mc256)) (show mTP 257 from mc257)) (show mTP 258 from mc258)) (show mTP 259 from mc259)) (show mTP 260 from mc260)) (show mTP 261 from mc261)) (show mTP 262 from mc262)) (show mTP 263 from mc263)
set_option maxHeartbeats 4000000 in
set_option maxRecDepth 100000 in
theorem mTab_ok_11 : ∀ y, 264 ≤ y → y < 265 → mTP y := mAllS (mAll0) (show mTP 264 from mc264)
theorem mTab_ok : ∀ y, 0 ≤ y → y < 265 → mTP y := mAllJ (mAllJ (mAllJ (mAllJ (mAllJ (mAllJ (mAllJ (mAllJ (mAllJ (mAllJ (mAllJ (mTab_ok_0) mTab_ok_1) mTab_ok_2) mTab_ok_3) mTab_ok_4) mTab_ok_5) mTab_ok_6) mTab_ok_7) mTab_ok_8) mTab_ok_9) mTab_ok_10) mTab_ok_11
end
section
/-! each method stands in the tables with its code -/
set_option maxHeartbeats 4000000 in
set_option maxRecDepth 100000 in
theorem mCode_ok_0 : ∀ y, 0 ≤ y → y < 24 → mCP y := mAllS (mAllS (mAllS (mAllS (mAllS (mAllS (mAllS (mAllS (mAllS (mAllS (mAllS (mAllS (mAllS (mAllS (mAllS (mAllS (mAllS (mAllS (mAllS (mAllS (mAllS (mAllS (mAllS (mAllS (mAll0) (show mCP 0 from rfl)) (show mCP 1 from rfl)) (show mCP 2 from rfl)) (show mCP 3 from rfl)) (show mCP 4 from rfl)) (show mCP 5 from rfl)) (show mCP 6 from rfl)) (show mCP 7 from rfl)) (show mCP 8 from rfl)) (show mCP 9 from rfl)) (show mCP 10 from rfl)) (show mCP 11 from rfl)) (show mCP 12 from rfl)) (show mCP 13 from rfl)) (show mCP 14 from rfl)) (show mCP 15 from rfl)) (show mCP 16 from rfl)) (show mCP 17 from rfl)) (show mCP 18 from rfl)) (show mCP 19 from rfl)) (show mCP 20 from rfl)) (show mCP 21 from rfl)) (show mCP 22 from rfl)) (show mCP 23 from rfl)
set_option maxHeartbeats 4000000 in
set_option maxRecDepth 100000 in
theorem mCode_ok_1 : ∀ y, 24 ≤ y → y < 48 → mCP y := mAllS (mAllS (mAllS (mAllS (mAllS (mAllS (mAllS (mAllS (mAllS (mAllS (mAllS (mAllS (mAllS (mAllS (mAllS (mAllS (mAllS (mAllS (mAllS (mAllS (mAllS (mAllS (mAllS (mAllS (mAll0) (show mCP 24 from rfl)) (show mCP 25 from rfl)) (show mCP 26 from rfl)) (show mCP 27 from rfl)) (show mCP 28 from rfl)) (show mCP 29 from rfl)) (show mCP 30 from rfl)) (show mCP 31 from rfl)) (show mCP 32 from rfl)) (show mCP 33 from rfl)) (show mCP 34 from rfl)) (show mCP 35 from rfl)) (show mCP 36 from rfl)) (show mCP 37 from rfl)) (show mCP 38 from rfl)) (show mCP 39 from rfl)) (show mCP 40 from rfl)) (show mCP 41 from rfl)) (show mCP 42 from rfl)) (show mCP 43 from rfl)) (show mCP 44 from rfl)) (show mCP 45 from rfl)) (show mCP 46 from rfl)) (show mCP 47 from rfl)
set_option maxHeartbeats 4000000 in
set_option maxRecDepth 100000 in
theorem mCode_ok_2 : ∀ y, 48 ≤ y → y < 72 → mCP y := mAllS (mAllS (mAllS (mAllS (mAllS (mAllS (mAllS (mAllS (mAllS (mAllS (mAllS (mAllS (mAllS (mAllS (mAllS (mAllS (mAllS (mAllS (mAllS (mAllS (mAllS (mAllS (mAllS (mAllS (mAll0) (show mCP 48 from rfl)) (show mCP 49 from rfl)) (show mCP 50 from rfl)) (show mCP 51 from rfl)) (show mCP 52 from rfl)) (show mCP 53 from rfl)) (show mCP 54 from rfl)) (show mCP 55 from rfl)) (show mCP 56 from rfl)) (show mCP 57 from rfl)) (show mCP 58 from rfl)) (show mCP 59 from rfl)) (show mCP 60 from rfl)) (show mCP 61 from rfl)) (show mCP 62 from rfl)) (show mCP 63 from rfl)) (show mCP 64 from rfl)) (show mCP 65 from rfl)) (show mCP 66 from rfl)) (show mCP 67 from rfl)) (show mCP 68 from rfl)) (show mCP 69 from rfl)) (show mCP 70 from rfl)) (show mCP 71 from rfl)
set_option maxHeartbeats 4000000 in
set_option maxRecDepth 100000 in
theorem mCode_ok_3 : ∀ y, 72 ≤ y → y < 96 → mCP y := mAllS (mAllS (mAllS (mAllS (mAllS (mAllS (mAllS (mAllS (mAllS (mAllS (mAllS (mAllS (mAllS (mAllS (mAllS (mAllS (mAllS (mAllS (mAllS (mAllS (mAllS (mAllS (mAllS (mAllS (mAll0) (show mCP 72 from rfl)) (show mCP 73 from rfl)) (show mCP 74 from rfl)) (show mCP 75 from rfl)) (show mCP 76 from rfl)) (show mCP 77 from rfl)) (show mCP 78 from rfl)) (show mCP 79 from rfl)) (show mCP 80 from rfl)) (show mCP 81 from rfl)) (show mCP 82 from rfl)) (show mCP 83 from rfl)) (show mCP 84 from rfl)) (show mCP 85 from rfl)) (show mCP 86 from rfl)) (show mCP 87 from rfl)) (show mCP 88 from rfl)) (show mCP 89 from rfl)) (show mCP 90 from rfl)) (show mCP 91 from rfl)) (show mCP 92 from rfl)) (show mCP 93 from rfl)) (show mCP 94 from rfl)) (show mCP 95 from rfl)
set_option maxHeartbeats 4000000 in
set_option maxRecDepth 100000 in
theorem mCode_ok_4 : ∀ y, 96 ≤ y → y < 120 → mCP y := mAllS (mAllS (mAllS (mAllS (mAllS (mAllS (mAllS (mAllS (mAllS (mAllS (mAllS (mAllS (mAllS (mAllS (mAllS (mAllS (mAllS (mAllS (mAllS (mAllS (mAllS (mAllS (mAllS (mAllS (mAll0) (show mCP 96 from rfl)) (show mCP 97 from rfl)) (show mCP 98 from rfl)) (show mCP 99 from rfl)) (show mCP 100 from rfl)) (show mCP 101 from rfl)) (show mCP 102 from rfl)) (show mCP 103 from rfl)) (show mCP 104 from rfl)) (show mCP 105 from rfl)) (show mCP 106 from rfl)) (show mCP 107 from rfl)) (show mCP 108 from rfl)) (show mCP 109 from rfl)) (show mCP 110 from rfl)) (show mCP 111 from rfl)) (show mCP 112 from rfl)) (show mCP 113 from rfl)) (show mCP 114 from rfl)) (show mCP 115 from rfl)) (show mCP 116 from rfl)) (show mCP 117 from rfl)) (show mCP 118 from rfl)) (show mCP 119 from rfl)
set_option maxHeartbeats 4000000 in
set_option maxRecDepth 100000 in
theorem mCode_ok_5 : ∀ y, 120 ≤ y → y < 144 → mCP y := mAllS (mAllS (mAllS (mAllS (mAllS (mAllS (mAllS (mAllS (mAllS (mAllS (mAllS (mAllS (mAllS (mAllS (mAllS (mAllS (mAllS (mAllS (mAllS (mAllS (mAllS (mAllS (mAllS (mAllS (mAll0) (show mCP 120 from rfl)) (show mCP 121 from rfl)) (show mCP 122 from rfl)) (show mCP 123 from rfl)) (show mCP 124 from rfl)) (show mCP 125 from rfl)) (show mCP 126 from rfl)) (show mCP 127 from rfl)) (show mCP 128 from rfl)) (show mCP 129 from rfl)) (show mCP 130 from rfl)) (show mCP 131 from rfl)) (show mCP 132 from rfl)) (show mCP 133 from rfl)) (show mCP 134 from rfl)) (show mCP 135 from rfl)) (show mCP 136 from rfl)) (show mCP 137 from rfl)) (show mCP 138 from rfl)) (show mCP 139 from rfl)) (show mCP 140 from rfl)) (show mCP 141 from rfl)) (show mCP 142 from rfl)) (show mCP 143 from rfl)
set_option maxHeartbeats 4000000 in
set_option maxRecDepth 100000 in
theorem mCode_ok_6 : ∀ y, 144 ≤ y → y < 168 → mCP y := mAllS (mAllS (mAllS (mAllS (mAllS (mAllS (mAllS (mAllS (mAllS (mAllS (mAllS (mAllS (mAllS (mAllS (mAllS (mAllS (mAllS (mAllS (mAllS (mAllS (mAllS (mAllS (mAllS (mAllS (mAll0) (show mCP 144 from rfl)) (show mCP 145 from rfl)) (show mCP 146 from rfl)) (show mCP 147 from rfl)) (show mCP 148 from rfl)) (show mCP 149 from rfl)) (show mCP 150 from rfl)) (show mCP 151 from rfl)) (show mCP 152 from rfl)) (show mCP 153 from rfl)) (show mCP 154 from rfl)) (show mCP 155 from rfl)) (show mCP 156 from rfl)) (show mCP 157 from rfl)) (show mCP 158 from rfl)) (show mCP 159 from rfl)) (show mCP 160 from rfl)) (show mCP 161 from rfl)) (show mCP 162 from rfl)) (show mCP 163 from rfl)) (show mCP 164 from rfl)) (show mCP 165 from rfl)) (show mCP 166 from rfl)) (show mCP 167 from rfl)
set_option maxHeartbeats 4000000 in
set_option maxRecDepth 100000 in
theorem mCode_ok_7 : ∀ y, 168 ≤ y → y < 192 → mCP y := mAllS (mAllS (mAllS (mAllS (mAllS (mAllS (mAllS (mAllS (mAllS (mAllS (mAllS (mAllS (mAllS (mAllS (mAllS (mAllS (mAllS (mAllS (mAllS (mAllS (mAllS (mAllS (mAllS (mAllS (mAll0) (show mCP 168 from rfl)) (show mCP 169 from rfl)) (show mCP 170 from rfl)) (show mCP 171 from rfl)) (show mCP 172 from rfl)) (show mCP 173 from rfl)) (show mCP 174 from rfl)) (show mCP 175 from rfl)) (show mCP 176 from rfl)) (show mCP 177 from rfl)) (show mCP 178 from rfl)) (show mCP 179 from rfl)) (show mCP 180 from rfl)) (show mCP 181 from rfl)) (show mCP 182 from rfl)) (show mCP 183 from rfl)) (show mCP 184 from rfl)) (show mCP 185 from rfl)) (show mCP 186 from rfl)) (show mCP 187 from rfl)) (show mCP 188 from rfl)) (show mCP 189 from rfl)) (show mCP 190 from rfl)) (show mCP 191 from rfl)
set_option maxHeartbeats 4000000 in
set_option maxRecDepth 100000 in
theorem mCode_ok_8 : ∀ y, 192 ≤ y → y < 216 → mCP y := mAllS (mAllS (mAllS (mAllS (mAllS (mAllS (mAllS (mAllS (mAllS (mAllS (mAllS (mAllS (mAllS (mAllS (mAllS (mAllS (mAllS (mAllS (mAllS (mAllS (mAllS (mAllS (mAllS (mAllS (mAll0) (show mCP 192 from rfl)) (show mCP 193 from rfl)) (show mCP 194 from rfl)) (show mCP 195 from rfl)) (show mCP 196 from rfl)) (show mCP 197 from rfl)) (show mCP 198 from rfl)) (show mCP 199 from rfl)) (show mCP 200 from rfl)) (show mCP 201 from rfl)) (show mCP 202 from rfl)) (show mCP 203 from rfl)) (show mCP 204 from rfl)) (show mCP 205 from rfl)) (show mCP 206 from rfl)) (show mCP 207 from rfl)) (show mCP 208 from rfl)) (show mCP 209 from rfl)) (show mCP 210 from rfl)) (show mCP 211 from rfl)) (show mCP 212 from rfl)) (show mCP 213 from rfl)) (show mCP 214 from rfl)) (show mCP 215 from rfl)
set_option maxHeartbeats 4000000 in
set_option maxRecDepth 100000 in
theorem mCode_ok_9 : ∀ y, 216 ≤ y → y < 240 → mCP y := mAllS (mAllS (mAllS (mAllS (mAllS (mAllS (mAllS (mAllS (mAllS (mAllS (mAllS (mAllS (mAllS (mAllS (mAllS (mAllS (mAllS (mAllS (mAllS (mAllS (mAllS (mAllS (mAllS (mAllS (mAll0) (show mCP 216 from rfl)) (show mCP 217 from rfl)) (show mCP 218 from rfl)) (show mCP 219 from rfl)) (show mCP 220 from rfl)) (show mCP 221 from rfl)) (show mCP 222 from rfl)) (show mCP 223 from rfl)) (show mCP 224 from rfl)) (show mCP 225 from rfl)) (show mCP 226 from rfl)) (show mCP 227 from rfl)) (show mCP 228 from rfl)) (show mCP 229 from rfl)) (show mCP 230 from rfl)) (show mCP 231 from rfl)) (show mCP 232 from rfl)) (show mCP 233 from rfl)) (show mCP 234 from rfl)) (show mCP 235 from rfl)) (show mCP 236 from rfl)) (show mCP 237 from rfl)) (show mCP 238 from rfl)) (show mCP 239 from rfl)
set_option maxHeartbeats 4000000 in
set_option maxRecDepth 100000 in
theorem mCode_ok_10 : ∀ y, 240 ≤ y → y < 264 → mCP y := mAllS (mAllS (mAllS (mAllS (mAllS (mAllS (mAllS (mAllS (mAllS (mAllS (mAllS (mAllS (mAllS (mAllS (mAllS (mAllS (mAllS (mAllS (mAllS (mAllS (mAllS (mAllS (mAllS (mAllS (mAll0) (show mCP 240 from rfl)) (show mCP 241 from rfl)) (show mCP 242 from rfl)) (show mCP 243 from rfl)) (show mCP 244 from rfl)) (show mCP 245 from rfl)) (show mCP 246 from rfl)) (show mCP 247 from rfl)) (show mCP 248 from rfl)) (show mCP 249 from rfl)) (show mCP 250 from rfl)) (show mCP 251 from rfl)) (show mCP 252 from rfl)) (show mCP 253 from rfl)) (show mCP 254 from rfl)) (show mCP 255 from rfl)) (show mCP 256 from rfl)) (show mCP 257 from rfl)) (show mCP 258 from rfl)) (show mCP 259 from rfl)) (show mCP 260 from rfl)) (show mCP 261 from rfl)) (show mCP 262 from rfl)) (show mCP 263 from rfl)
theorem mCode_ok : ∀ y, 0 ≤ y → y < 264 → mCP y := mAllJ (mAllJ (mAllJ (mAllJ (mAllJ (mAllJ (mAllJ (mAllJ (mAllJ (mAllJ (mCode_ok_0) mCode_ok_1) mCode_ok_2) mCode_ok_3) mCode_ok_4) mCode_ok_5) mCode_ok_6) mCode_ok_7) mCode_ok_8) mCode_ok_9) mCode_ok_10
end
section
/-! what a state of the small machine says of a state of the machine; locals -/
def mAd (z : Nat) (sa : Nat → Nat) (k : Nat) : Nat := if k < mBase then z + k else sa (k - mBase)
def mTv (ad : Nat → Nat) (v : Value) : Value := match v with
  | .ref k => .ref (ad k)
  | w => w
def mE (ad : Nat → Nat) (cy : Nat → ClassId) (c : mC) : va_E := match c with
  | .inl (ci, fs) => .inr (ci, fs.map (mTv ad))
  | .inr (k, .inl l) => .inl (cy k, l.length, .inl (fun j => l.getD j 0))
  | .inr (k, .inr (.inl l)) => .inl (cy k, l.length, .inr (.inl (fun j => l.getD j 0)))
  | .inr (k, .inr (.inr l)) => .inl (cy k, l.length, .inr (.inr (.inr (.inr (fun j => (l.getD j none).map ad)))))
def mWs (ad : Nat → Nat) (cy : Nat → ClassId) (h : mH) : va_W := h.mapIdx (fun k c => (ad k, mE ad cy c))
def mTys (cy : Nat → ClassId) : List (ClassId × FieldType) := [(cy 0, .int), (cy 1, .byte), (cy 2, .boolean), (cy 3, .long), (cy 4, .array .int)]
def mA (z : Nat) : Nat → Prop := fun q => z ≤ q
/-- the rows that nobody writes -/
def mRo (z : Nat) (sa : Nat → Nat) (ro : List (List Int32)) (U : State) (H : Heap) : Prop :=
  (∀ i, i < 5 → va_Z ((mSn[i]?).getD ("", "")).1 ((mSn[i]?).getD ("", "")).2 "[I" (.ref (sa i)) (mA z) U H) ∧ ∀ (i : Nat) (l : List Int32), ro[i]? = some l → va_T .int (sa i) l.length (fun j => .int (l.getD j 0)) (mA z) U H
theorem mRo.kept {z : Nat} {sa : Nat → Nat} {ro : List (List Int32)} {U : State} {H H1 : Heap} (h : mRo z sa ro U H) (hq : ∀ a : Nat, a < H.size → ¬ mA z a → H1[a]? = H[a]?) : mRo z sa ro U H1 :=
  ⟨fun i hi => (h.1 i hi).kept hq, fun i l hl => (h.2 i l hl).kept hq⟩
theorem mRo.moved {z : Nat} {sa : Nat → Nat} {ro : List (List Int32)} {u U : State} {H : Heap} (hvm : u.vm.Alike U.vm) (h : mRo z sa ro u H) : mRo z sa ro U H :=
  ⟨fun i hi => (h.1 i hi).moved hvm, fun i l hl => (h.2 i l hl).moved hvm⟩
/-- what stays while a method runs -/
def mCx (p : Program) (s : State) (m : MethodId) (args : Array Value) (c : Code) (cc : ByteArray) (nL : Nat) (own : String) (G : va_G) (cy : Nat → ClassId) (z : Nat) (sa : Nat → Nat) (ro : List (List Int32)) : Prop :=
  p.tables.exec = Jvm.exec ∧ c.code = cc ∧ c.maxLocals = nL ∧ s.vm.findClass own = some m.cls ∧ (∀ w ∈ mGw, w.before args s = true) ∧ va_K G vwCl (mTys cy) s ∧ mRo z sa ro s s.heap ∧ z ≤ s.heap.size
def mInv (G : va_G) (cy : Nat → ClassId) (z : Nat) (sa : Nat → Nat) (s : State) (h : mH) (H : Heap) (locs : List Loc) : Prop :=
  va_P G vwCl (mWs (mAd z sa) cy h) H ∧ va_D (mA z) (mWs (mAd z sa) cy h) ∧ va_S (mA z) s.heap H locs
def mLv (ad : Nat → Nat) (lo : mO) (ls : Array Slot) : Prop := ls.size = lo.length ∧ lv_wf ls ∧ ∀ (i : Nat) (v : Value), mLoad lo i = some v → ls[i]? = some (.val (mTv ad v))
theorem mTv_cat (ad : Nat → Nat) (v : Value) : (mTv ad v).category = v.category := by cases v <;> rfl
theorem mWs_get {ad : Nat → Nat} {cy : Nat → ClassId} {h : mH} {k : Nat} {c : mC} (hk : h[k]? = some c) : (mWs ad cy h)[k]? = some (ad k, mE ad cy c) := by
  simp [mWs, hk]
theorem mWs_set (ad : Nat → Nat) (cy : Nat → ClassId) (h : mH) (k : Nat) (c : mC) : mWs ad cy (h.set k c) = (mWs ad cy h).set k (ad k, mE ad cy c) := by
  unfold mWs
  apply List.ext_getElem?
  intro i
  simp only [List.getElem?_mapIdx, List.getElem?_set, List.length_mapIdx]
  by_cases hki : k = i
  · subst hki
    by_cases hl : k < h.length
    · simp [hl]
    · simp [hl]
  · simp [hki]
theorem mWs_app (ad : Nat → Nat) (cy : Nat → ClassId) (h : mH) (c : mC) : mWs ad cy (h ++ [c]) = mWs ad cy h ++ [(ad h.length, mE ad cy c)] := by
  simp [mWs, List.mapIdx_append]
theorem mWs_len (ad : Nat → Nat) (cy : Nat → ClassId) (h : mH) : (mWs ad cy h).length = h.length := by simp [mWs]
/-- the locals as the kit lists them -/
def mLs (ad : Nat → Nat) (lo : mO) : List (Nat × Value) := (List.range lo.length).filterMap fun i => (mLoad lo i).map fun v => (i, mTv ad v)
theorem mLoad_lt {lo : mO} {i : Nat} {v : Value} (h : mLoad lo i = some v) : i < lo.length := by
  unfold mLoad at h
  split at h
  · exact (List.getElem?_eq_some_iff.mp (by assumption)).1
  · cases h
theorem mLoad_get {lo : mO} {i : Nat} {v : Value} (h : mLoad lo i = some v) : lo[i]? = some (some v) := by
  unfold mLoad at h
  split at h
  · rename_i w hw
    rw [hw, h]
  · cases h
theorem mLoad_of {lo : mO} {i : Nat} {v : Value} (h : lo[i]? = some (some v)) : mLoad lo i = some v := by
  unfold mLoad
  rw [h]
theorem mLs_mem {ad : Nat → Nat} {lo : mO} {q : Nat × Value} (h : q ∈ mLs ad lo) : ∃ v, mLoad lo q.1 = some v ∧ q.2 = mTv ad v := by
  obtain ⟨i, -, hi⟩ := List.mem_filterMap.mp h
  cases hv : mLoad lo i with
  | none => rw [hv] at hi; cases hi
  | some v =>
    rw [hv] at hi
    cases hi
    exact ⟨v, hv, rfl⟩
theorem mLs_of {ad : Nat → Nat} {lo : mO} {i : Nat} {v : Value} (h : mLoad lo i = some v) : (i, mTv ad v) ∈ mLs ad lo :=
  List.mem_filterMap.mpr ⟨i, List.mem_range.mpr (mLoad_lt h), by rw [h]; rfl⟩
theorem mLv.to {ad : Nat → Nat} {lo : mO} {ls : Array Slot} (h : mLv ad lo ls) : lv_has ls lo.length (mLs ad lo) :=
  ⟨h.1, h.2.1, fun q hq => by
    obtain ⟨v, h1, h2⟩ := mLs_mem hq
    rw [h2]
    exact h.2.2 q.1 v h1⟩
theorem mLv.of {ad : Nat → Nat} {lo : mO} {ls : Array Slot} {n : Nat} {l : List (Nat × Value)} (h : lv_has ls n l) (hn : n = lo.length) (hq : ∀ (i : Nat) (v : Value), mLoad lo i = some v → (i, mTv ad v) ∈ l) : mLv ad lo ls :=
  ⟨h.1.trans hn, h.2.1, fun i v hv => h.2.2 _ (hq i v hv)⟩
theorem mClr_len (lo : mO) (i : Nat) : (mClr lo i).length = lo.length := by
  unfold mClr
  split
  · rfl
  · split
    · cases h : Nat.beq _ 2 <;> simp
    · rfl
theorem mClr_load {lo : mO} {i j : Nat} {v : Value} (h : mLoad (mClr lo i) j = some v) : mLoad lo j = some v ∧ ¬ (j + 1 = i ∧ v.category = 2) := by
  cases i with
  | zero => exact ⟨h, by omega⟩
  | succ k =>
    simp only [mClr] at h
    split at h
    · rename_i w hw
      cases hc : Nat.beq w.category 2 with
      | true =>
        rw [hc] at h
        simp only [cond_true] at h
        have h1 := mLoad_get h
        rw [List.getElem?_set] at h1
        split at h1
        · split at h1 <;> simp at h1
        · exact ⟨mLoad_of h1, by omega⟩
      | false =>
        rw [hc] at h
        simp only [cond_false] at h
        refine ⟨h, fun q => ?_⟩
        obtain ⟨q1, q2⟩ := q
        have hj : j = k := by omega
        subst hj
        have h1 := mLoad_get h
        rw [hw] at h1
        cases h1
        rw [q2] at hc
        exact absurd hc (by decide)
    · rename_i hn
      refine ⟨h, fun q => ?_⟩
      obtain ⟨q1, q2⟩ := q
      have hj : j = k := by omega
      subst hj
      exact hn v (mLoad_get h)
theorem mSt1_len (lo : mO) (i : Nat) (v : Value) : (mSt1 lo i v).length = lo.length := by simp [mSt1, mClr_len]
theorem mSt2_len (lo : mO) (i : Nat) (v : Value) : (mSt2 lo i v).length = lo.length := by simp [mSt2, mClr_len]
theorem mSt1_load {lo : mO} {i j : Nat} {x v : Value} (h : mLoad (mSt1 lo i x) j = some v) : (j = i ∧ v = x) ∨ (¬ j = i ∧ mLoad lo j = some v ∧ ¬ (j + 1 = i ∧ v.category = 2)) := by
  have h1 := mLoad_get h
  unfold mSt1 at h1
  rw [List.getElem?_set] at h1
  split at h1
  · rename_i hij
    split at h1
    · simp at h1
      exact Or.inl ⟨hij.symm, h1.symm⟩
    · cases h1
  · rename_i hij
    obtain ⟨a, b⟩ := mClr_load (mLoad_of h1)
    exact Or.inr ⟨fun q => hij q.symm, a, b⟩
theorem mSt2_load {lo : mO} {i j : Nat} {x v : Value} (h : mLoad (mSt2 lo i x) j = some v) : (j = i ∧ v = x) ∨ (¬ j = i ∧ ¬ j = i + 1 ∧ mLoad lo j = some v ∧ ¬ (j + 1 = i ∧ v.category = 2)) := by
  have h1 := mLoad_get h
  unfold mSt2 at h1
  rw [List.getElem?_set] at h1
  split at h1
  · split at h1
    · simp at h1
    · cases h1
  · rename_i hij
    rcases mSt1_load (mLoad_of h1) with q | ⟨q1, q2, q3⟩
    · exact Or.inl q
    · exact Or.inr ⟨q1, fun q => hij q.symm, q2, q3⟩
theorem mLv.st1 {ad : Nat → Nat} {lo : mO} {ls : Array Slot} {i : Nat} {x : Value} (h : lv_has ls lo.length ((i, mTv ad x) :: (mLs ad lo).filter (fun q => !(q.1 == i) && !(q.1 + 1 == i && q.2.category == 2)))) : mLv ad (mSt1 lo i x) ls := by
  refine mLv.of h (mSt1_len lo i x).symm (fun j v hv => ?_)
  rcases mSt1_load hv with ⟨rfl, rfl⟩ | ⟨q1, q2, q3⟩
  · exact List.mem_cons_self
  · refine List.mem_cons_of_mem _ (List.mem_filter.mpr ⟨mLs_of q2, ?_⟩)
    simp only [mTv_cat]
    simp [q1]
    rcases Decidable.em (j + 1 = i) with a | a
    · exact Or.inr (fun c => q3 ⟨a, c⟩)
    · exact Or.inl a
theorem mLv.st2 {ad : Nat → Nat} {lo : mO} {ls : Array Slot} {i : Nat} {x : Value} (h : lv_has ls lo.length ((i, mTv ad x) :: (mLs ad lo).filter (fun q => !(q.1 == i) && (!(q.1 == i + 1) && !(q.1 + 1 == i && q.2.category == 2))))) : mLv ad (mSt2 lo i x) ls := by
  refine mLv.of h (mSt2_len lo i x).symm (fun j v hv => ?_)
  rcases mSt2_load hv with ⟨rfl, rfl⟩ | ⟨q1, q0, q2, q3⟩
  · exact List.mem_cons_self
  · refine List.mem_cons_of_mem _ (List.mem_filter.mpr ⟨mLs_of q2, ?_⟩)
    simp only [mTv_cat]
    simp [q1, q0]
    rcases Decidable.em (j + 1 = i) with a | a
    · exact Or.inr (fun c => q3 ⟨a, c⟩)
    · exact Or.inl a
end
section
theorem mLc_eq (x y : Int64) : mLc x y = lg_cmp x y := by
  unfold mLc lg_cmp
  simp only [gt_iff_lt, Int64.lt_iff_toInt_lt, ← Int64.toInt_inj]
  by_cases h1 : x.toInt < y.toInt
  · have h2 : ¬ y.toInt < x.toInt := by omega
    have h3 : ¬ x.toInt = y.toInt := by omega
    rw [if_pos h1, if_neg h2, if_neg h3]
  · by_cases h3 : x.toInt = y.toInt
    · have h2 : ¬ y.toInt < x.toInt := by omega
      rw [if_neg h1, if_pos h3, if_neg h2, if_pos h3]
    · have h2 : y.toInt < x.toInt := by omega
      rw [if_neg h1, if_neg h3, if_pos h2]
theorem mSw_lk {pc : Int} {d : Int} {a1 : Nat} (hd : pc + d = (a1 : Int)) (x : Int32) : ∀ (ps : List (Int × Int)) (sw : List (Int32 × Nat)), mLkOk pc ps sw = true → pc + Op.lookupswitch.offset ps d x.toInt = ((mSw x sw a1 : Nat) : Int) := by
  intro ps
  induction ps with
  | nil =>
    intro sw h
    cases sw with
    | nil => rw [Op.lookupswitch.offset_nil]; exact hd
    | cons q r => simp [mLkOk] at h
  | cons y t ih =>
    intro sw h
    cases sw with
    | nil => simp [mLkOk] at h
    | cons q r =>
      simp only [mLkOk, Bool.and_eq_true, decide_eq_true_eq] at h
      obtain ⟨⟨⟨h1, h2⟩, h3⟩, h4⟩ := h
      rw [Op.lookupswitch.offset_cons, mSw]
      by_cases hx : x = q.1
      · rw [if_pos hx, if_pos (by rw [hx, h3])]
        exact h2
      · rw [if_neg hx, if_neg (fun e => hx (Int32.toInt_inj.mp (by rw [h3, e])))]
        exact ih r h4
theorem mSw_tb {pc : Int} {lo : Int} {a1 : Nat} (x : Int32) (hlo : -2147483648 ≤ lo) : ∀ (os : List Int) (sw : List (Int32 × Nat)) (k : Nat), mSwOk pc lo k os sw = true → lo + k + os.length ≤ 2147483648 →
    (∀ (j : Nat) (off : Int), os[j]? = some off → x.toInt = lo + k + j → pc + off = ((mSw x sw a1 : Nat) : Int)) ∧ ((∀ j : Nat, j < os.length → ¬ x.toInt = lo + k + j) → mSw x sw a1 = a1) := by
  intro os
  induction os with
  | nil =>
    intro sw k h hk
    cases sw with
    | nil => exact ⟨fun j off h => by simp at h, fun _ => rfl⟩
    | cons q r => simp [mSwOk] at h
  | cons y t ih =>
    intro sw k h hk
    cases sw with
    | nil => simp [mSwOk] at h
    | cons q r =>
      simp only [mSwOk, Bool.and_eq_true, decide_eq_true_eq] at h
      obtain ⟨⟨h1, h2⟩, h4⟩ := h
      simp only [List.length_cons] at hk
      have hq : q.1.toInt = lo + k := by
        rw [← h1]
        exact Int32.toInt_ofInt_of_le (by omega) (by omega)
      obtain ⟨i1, i2⟩ := ih r (k + 1) h4 (by omega)
      have hxq : (x = q.1) ↔ x.toInt = lo + k := by rw [← hq, Int32.toInt_inj]
      refine ⟨fun j off hj hx => ?_, fun hn => ?_⟩
      · rw [mSw]
        cases j with
        | zero =>
          simp at hj
          rw [if_pos (hxq.mpr (by omega)), ← hj]
          exact h2
        | succ j =>
          simp only [List.getElem?_cons_succ] at hj
          rw [if_neg (fun e => by have := hxq.mp e; omega)]
          exact i1 j off hj (by omega)
      · rw [mSw, if_neg (fun e => hn 0 (by simp) (by have := hxq.mp e; omega))]
        exact i2 (fun j hj e => hn (j + 1) (by simp; omega) (by omega))

section S1
variable {p : Program} {l : Launch} {e : Env} {R : Room} {s : State} {m : MethodId} {args : Array Value} {below : List Frame} {meth : Method} {c : Code} {H : Heap} {locs : List Loc} {cells slots : Nat} {Q : State → Prop}
variable {cc : ByteArray} {nL : Nat} {own : String} {G : va_G} {cy : Nat → ClassId} {z : Nat} {sa : Nat → Nat} {ro : List (List Int32)} {pc len a1 a2 a3 : Nat} {v32 : Int32} {v64 : Int64} {sw : List (Int32 × Nat)} {lo : mO} {st : List Value} {h : mH} {ls : Array Slot} {pc2 : Nat} {lo2 : mO} {st2 : List Value} {h2 : mH} {dc ds : Nat} {k : Nat} {ini : Bool}
theorem mGo_inv {x : mR} (hs : mGo pc lo st h = some x) : x = .inl (pc, lo, st, h, 0, 0) := by simp only [mGo, Option.some.injEq] at hs; exact hs.symm
/-- what is left to do behind an instruction that leaves the cells -/
abbrev mKk (p : Program) (l : Launch) (e : Env) (R : Room) (s : State) (m : MethodId) (args : Array Value) (below : List Frame) (meth : Method) (c : Code) (H : Heap) (locs : List Loc) (cells slots : Nat) (Q : State → Prop) (ad : Nat → Nat) (h : mH) (x : mR) : Prop :=
  ∀ (pc2 : Nat) (lo2 : mO) (st2 : List Value), x = .inl (pc2, lo2, st2, h, 0, 0) → ∀ ls2 : Array Slot, mLv ad lo2 ls2 → W p l e R s m args below meth c H locs cells slots Q (F0 m pc2 ls2 (st2.map (mTv ad)))

theorem sim_iload_n (C0 : mCx p s m args c cc nL own G cy z sa ro) (hl : mLv (mAd z sa) lo ls) {q : Fin 4} {x : mR} (hdg : decode cc pc = .ok (.iload_n q, 1)) (ha : q.val = a1)
    (hs : mStep1 ro (.iload_n q, 1, a1, a2, a3, v32, v64, sw) pc lo st h = some x) (K : mKk p l e R s m args below meth c H locs cells slots Q (mAd z sa) h x) : W p l e R s m args below meth c H locs cells slots Q (F0 m pc ls (st.map (mTv (mAd z sa)))) := by
  obtain ⟨hx, hb, hml, hown, hts, hK, hro, hz⟩ := C0
  simp only [mStep1] at hs
  split at hs
  · rename_i y hy
    have := mGo_inv hs
    subst this
    exact lv_iload_n hx hb hdg ha (hl.2.2 _ _ hy) (K _ _ _ rfl ls hl)
  · cases hs
theorem sim_iload (C0 : mCx p s m args c cc nL own G cy z sa ro) (hl : mLv (mAd z sa) lo ls)  {x : mR} (hdg : decode cc pc = .ok (.iload a1, 2))
    (hs : mStep1 ro (.iload a1, 2, a1, a2, a3, v32, v64, sw) pc lo st h = some x) (K : mKk p l e R s m args below meth c H locs cells slots Q (mAd z sa) h x) : W p l e R s m args below meth c H locs cells slots Q (F0 m pc ls (st.map (mTv (mAd z sa)))) := by
  obtain ⟨hx, hb, hml, hown, hts, hK, hro, hz⟩ := C0
  simp only [mStep1] at hs
  split at hs
  · rename_i y hy
    have := mGo_inv hs
    subst this
    exact lv_iload hx hb hdg (hl.2.2 _ _ hy) (K _ _ _ rfl ls hl)
  · cases hs
theorem sim_aload_n (C0 : mCx p s m args c cc nL own G cy z sa ro) (hl : mLv (mAd z sa) lo ls) {q : Fin 4} {x : mR} (hdg : decode cc pc = .ok (.aload_n q, 1)) (ha : q.val = a1)
    (hs : mStep1 ro (.aload_n q, 1, a1, a2, a3, v32, v64, sw) pc lo st h = some x) (K : mKk p l e R s m args below meth c H locs cells slots Q (mAd z sa) h x) : W p l e R s m args below meth c H locs cells slots Q (F0 m pc ls (st.map (mTv (mAd z sa)))) := by
  obtain ⟨hx, hb, hml, hown, hts, hK, hro, hz⟩ := C0
  simp only [mStep1] at hs
  split at hs
  · rename_i y hy
    have := mGo_inv hs
    subst this
    exact lv_aload_n hx hb hdg ha (hl.2.2 _ _ hy) (K _ _ _ rfl ls hl)
  · cases hs
theorem sim_lload_n (C0 : mCx p s m args c cc nL own G cy z sa ro) (hl : mLv (mAd z sa) lo ls) {q : Fin 4} {x : mR} (hdg : decode cc pc = .ok (.lload_n q, 1)) (ha : q.val = a1)
    (hs : mStep1 ro (.lload_n q, 1, a1, a2, a3, v32, v64, sw) pc lo st h = some x) (K : mKk p l e R s m args below meth c H locs cells slots Q (mAd z sa) h x) : W p l e R s m args below meth c H locs cells slots Q (F0 m pc ls (st.map (mTv (mAd z sa)))) := by
  obtain ⟨hx, hb, hml, hown, hts, hK, hro, hz⟩ := C0
  simp only [mStep1] at hs
  split at hs
  · rename_i y hy
    have := mGo_inv hs
    subst this
    exact lv_lload_n hx hb hdg ha (hl.2.2 _ _ hy) (K _ _ _ rfl ls hl)
  · cases hs
theorem sim_lload (C0 : mCx p s m args c cc nL own G cy z sa ro) (hl : mLv (mAd z sa) lo ls)  {x : mR} (hdg : decode cc pc = .ok (.lload a1, 2))
    (hs : mStep1 ro (.lload a1, 2, a1, a2, a3, v32, v64, sw) pc lo st h = some x) (K : mKk p l e R s m args below meth c H locs cells slots Q (mAd z sa) h x) : W p l e R s m args below meth c H locs cells slots Q (F0 m pc ls (st.map (mTv (mAd z sa)))) := by
  obtain ⟨hx, hb, hml, hown, hts, hK, hro, hz⟩ := C0
  simp only [mStep1] at hs
  split at hs
  · rename_i y hy
    have := mGo_inv hs
    subst this
    exact lv_lload hx hb hdg (hl.2.2 _ _ hy) (K _ _ _ rfl ls hl)
  · cases hs
theorem sim_istore_n (C0 : mCx p s m args c cc nL own G cy z sa ro) (hl : mLv (mAd z sa) lo ls) {q : Fin 4} {x : mR} (hdg : decode cc pc = .ok (.istore_n q, 1)) (ha : q.val = a1)
    (hs : mStep1 ro (.istore_n q, 1, a1, a2, a3, v32, v64, sw) pc lo st h = some x) (K : mKk p l e R s m args below meth c H locs cells slots Q (mAd z sa) h x) : W p l e R s m args below meth c H locs cells slots Q (F0 m pc ls (st.map (mTv (mAd z sa)))) := by
  obtain ⟨hx, hb, hml, hown, hts, hK, hro, hz⟩ := C0
  simp only [mStep1] at hs
  split at hs
  · rename_i y r
    cases hlt : Nat.blt a1 lo.length with
    | false => rw [hlt] at hs; cases hs
    | true =>
      rw [hlt] at hs
      have := mGo_inv hs
      subst this
      exact lv_istore_n hx hb hdg ha hl.to (Nat.lt_of_lt_of_le (Nat.lt_succ_self _) (Nat.le_of_ble_eq_true hlt)) rfl (fun ls2 hl2 => K _ _ _ rfl ls2 (mLv.st1 hl2))
  · cases hs
theorem sim_istore (C0 : mCx p s m args c cc nL own G cy z sa ro) (hl : mLv (mAd z sa) lo ls)  {x : mR} (hdg : decode cc pc = .ok (.istore a1, 2))
    (hs : mStep1 ro (.istore a1, 2, a1, a2, a3, v32, v64, sw) pc lo st h = some x) (K : mKk p l e R s m args below meth c H locs cells slots Q (mAd z sa) h x) : W p l e R s m args below meth c H locs cells slots Q (F0 m pc ls (st.map (mTv (mAd z sa)))) := by
  obtain ⟨hx, hb, hml, hown, hts, hK, hro, hz⟩ := C0
  simp only [mStep1] at hs
  split at hs
  · rename_i y r
    cases hlt : Nat.blt a1 lo.length with
    | false => rw [hlt] at hs; cases hs
    | true =>
      rw [hlt] at hs
      have := mGo_inv hs
      subst this
      exact lv_istore hx hb hdg hl.to (Nat.lt_of_lt_of_le (Nat.lt_succ_self _) (Nat.le_of_ble_eq_true hlt)) rfl (fun ls2 hl2 => K _ _ _ rfl ls2 (mLv.st1 hl2))
  · cases hs
theorem sim_astore_n (C0 : mCx p s m args c cc nL own G cy z sa ro) (hl : mLv (mAd z sa) lo ls) {q : Fin 4} {x : mR} (hdg : decode cc pc = .ok (.astore_n q, 1)) (ha : q.val = a1)
    (hs : mStep1 ro (.astore_n q, 1, a1, a2, a3, v32, v64, sw) pc lo st h = some x) (K : mKk p l e R s m args below meth c H locs cells slots Q (mAd z sa) h x) : W p l e R s m args below meth c H locs cells slots Q (F0 m pc ls (st.map (mTv (mAd z sa)))) := by
  obtain ⟨hx, hb, hml, hown, hts, hK, hro, hz⟩ := C0
  simp only [mStep1] at hs
  split at hs
  · rename_i y r
    cases hlt : Nat.blt a1 lo.length with
    | false => rw [hlt] at hs; cases hs
    | true =>
      rw [hlt] at hs
      have := mGo_inv hs
      subst this
      exact lv_astore_n hx hb hdg ha hl.to (Nat.lt_of_lt_of_le (Nat.lt_succ_self _) (Nat.le_of_ble_eq_true hlt)) rfl (fun ls2 hl2 => K _ _ _ rfl ls2 (mLv.st1 hl2))
  · cases hs
theorem sim_lstore_n (C0 : mCx p s m args c cc nL own G cy z sa ro) (hl : mLv (mAd z sa) lo ls) {q : Fin 4} {x : mR} (hdg : decode cc pc = .ok (.lstore_n q, 1)) (ha : q.val = a1)
    (hs : mStep1 ro (.lstore_n q, 1, a1, a2, a3, v32, v64, sw) pc lo st h = some x) (K : mKk p l e R s m args below meth c H locs cells slots Q (mAd z sa) h x) : W p l e R s m args below meth c H locs cells slots Q (F0 m pc ls (st.map (mTv (mAd z sa)))) := by
  obtain ⟨hx, hb, hml, hown, hts, hK, hro, hz⟩ := C0
  simp only [mStep1] at hs
  split at hs
  · rename_i y r
    cases hlt : Nat.blt (a1 + 1) lo.length with
    | false => rw [hlt] at hs; cases hs
    | true =>
      rw [hlt] at hs
      have := mGo_inv hs
      subst this
      exact lv_lstore_n hx hb hdg ha hl.to (Nat.lt_of_lt_of_le (Nat.lt_succ_self _) (Nat.le_of_ble_eq_true hlt)) rfl (fun ls2 hl2 => K _ _ _ rfl ls2 (mLv.st2 hl2))
  · cases hs
theorem sim_lstore (C0 : mCx p s m args c cc nL own G cy z sa ro) (hl : mLv (mAd z sa) lo ls)  {x : mR} (hdg : decode cc pc = .ok (.lstore a1, 2))
    (hs : mStep1 ro (.lstore a1, 2, a1, a2, a3, v32, v64, sw) pc lo st h = some x) (K : mKk p l e R s m args below meth c H locs cells slots Q (mAd z sa) h x) : W p l e R s m args below meth c H locs cells slots Q (F0 m pc ls (st.map (mTv (mAd z sa)))) := by
  obtain ⟨hx, hb, hml, hown, hts, hK, hro, hz⟩ := C0
  simp only [mStep1] at hs
  split at hs
  · rename_i y r
    cases hlt : Nat.blt (a1 + 1) lo.length with
    | false => rw [hlt] at hs; cases hs
    | true =>
      rw [hlt] at hs
      have := mGo_inv hs
      subst this
      exact lv_lstore hx hb hdg hl.to (Nat.lt_of_lt_of_le (Nat.lt_succ_self _) (Nat.le_of_ble_eq_true hlt)) rfl (fun ls2 hl2 => K _ _ _ rfl ls2 (mLv.st2 hl2))
  · cases hs
theorem sim_iinc (C0 : mCx p s m args c cc nL own G cy z sa ro) (hl : mLv (mAd z sa) lo ls) {w : Int} {x : mR} (hdg : decode cc pc = .ok (.iinc a1 w, 3)) (ha : Int32.ofInt w = v32)
    (hs : mStep1 ro (.iinc a1 w, 3, a1, a2, a3, v32, v64, sw) pc lo st h = some x) (K : mKk p l e R s m args below meth c H locs cells slots Q (mAd z sa) h x) : W p l e R s m args below meth c H locs cells slots Q (F0 m pc ls (st.map (mTv (mAd z sa)))) := by
  obtain ⟨hx, hb, hml, hown, hts, hK, hro, hz⟩ := C0
  simp only [mStep1] at hs
  split at hs
  · rename_i y hy
    cases hlt : Nat.blt a1 lo.length with
    | false => rw [hlt] at hs; cases hs
    | true =>
      rw [hlt] at hs
      have := mGo_inv hs
      subst this
      obtain ⟨k9, hk9⟩ := List.getElem?_of_mem (mLs_of (ad := mAd z sa) hy)
      exact lv_iinc hx hb hdg hl.to hk9 (by rw [ha]) (Nat.lt_of_lt_of_le (Nat.lt_succ_self _) (Nat.le_of_ble_eq_true hlt)) rfl (fun ls2 hl2 => K _ _ _ rfl ls2 (mLv.st1 hl2))
  · cases hs
theorem sim_iconst (C0 : mCx p s m args c cc nL own G cy z sa ro) (hl : mLv (mAd z sa) lo ls) {w : Int} {x : mR} (hdg : decode cc pc = .ok (.iconst w, 1)) (ha : Int32.ofInt w = v32)
    (hs : mStep1 ro (.iconst w, 1, a1, a2, a3, v32, v64, sw) pc lo st h = some x) (K : mKk p l e R s m args below meth c H locs cells slots Q (mAd z sa) h x) : W p l e R s m args below meth c H locs cells slots Q (F0 m pc ls (st.map (mTv (mAd z sa)))) := by
  obtain ⟨hx, hb, hml, hown, hts, hK, hro, hz⟩ := C0
  simp only [mStep1] at hs
  have := mGo_inv hs
  subst this
  exact lv_iconst hx hb hdg ha (K _ _ _ rfl ls hl)
theorem sim_bipush (C0 : mCx p s m args c cc nL own G cy z sa ro) (hl : mLv (mAd z sa) lo ls) {w : Int} {x : mR} (hdg : decode cc pc = .ok (.bipush w, 2)) (ha : (Int8.ofInt w).toInt32 = v32)
    (hs : mStep1 ro (.bipush w, 2, a1, a2, a3, v32, v64, sw) pc lo st h = some x) (K : mKk p l e R s m args below meth c H locs cells slots Q (mAd z sa) h x) : W p l e R s m args below meth c H locs cells slots Q (F0 m pc ls (st.map (mTv (mAd z sa)))) := by
  obtain ⟨hx, hb, hml, hown, hts, hK, hro, hz⟩ := C0
  simp only [mStep1] at hs
  have := mGo_inv hs
  subst this
  exact lv_bipush hx hb hdg ha (K _ _ _ rfl ls hl)
theorem sim_sipush (C0 : mCx p s m args c cc nL own G cy z sa ro) (hl : mLv (mAd z sa) lo ls) {w : Int} {x : mR} (hdg : decode cc pc = .ok (.sipush w, 3)) (ha : (Int16.ofInt w).toInt32 = v32)
    (hs : mStep1 ro (.sipush w, 3, a1, a2, a3, v32, v64, sw) pc lo st h = some x) (K : mKk p l e R s m args below meth c H locs cells slots Q (mAd z sa) h x) : W p l e R s m args below meth c H locs cells slots Q (F0 m pc ls (st.map (mTv (mAd z sa)))) := by
  obtain ⟨hx, hb, hml, hown, hts, hK, hro, hz⟩ := C0
  simp only [mStep1] at hs
  have := mGo_inv hs
  subst this
  exact lv_sipush hx hb hdg ha (K _ _ _ rfl ls hl)
theorem sim_lconst (C0 : mCx p s m args c cc nL own G cy z sa ro) (hl : mLv (mAd z sa) lo ls) {w : Fin 2} {x : mR} (hdg : decode cc pc = .ok (.lconst w, 1)) (ha : Int64.ofNat w.val = v64)
    (hs : mStep1 ro (.lconst w, 1, a1, a2, a3, v32, v64, sw) pc lo st h = some x) (K : mKk p l e R s m args below meth c H locs cells slots Q (mAd z sa) h x) : W p l e R s m args below meth c H locs cells slots Q (F0 m pc ls (st.map (mTv (mAd z sa)))) := by
  obtain ⟨hx, hb, hml, hown, hts, hK, hro, hz⟩ := C0
  simp only [mStep1] at hs
  have := mGo_inv hs
  subst this
  exact lv_lconst hx hb hdg ha (K _ _ _ rfl ls hl)
theorem sim_ldc (C0 : mCx p s m args c cc nL own G cy z sa ro) (hl : mLv (mAd z sa) lo ls) {w : Nat} {x : mR} (hdg : decode cc pc = .ok (.ldc w, 2)) (ha : Jvm.Cond.constant own w v32 ∈ lw_tbl)
    (hs : mStep1 ro (.ldc w, 2, a1, a2, a3, v32, v64, sw) pc lo st h = some x) (K : mKk p l e R s m args below meth c H locs cells slots Q (mAd z sa) h x) : W p l e R s m args below meth c H locs cells slots Q (F0 m pc ls (st.map (mTv (mAd z sa)))) := by
  obtain ⟨hx, hb, hml, hown, hts, hK, hro, hz⟩ := C0
  simp only [mStep1] at hs
  have := mGo_inv hs
  subst this
  exact lv_ldc hx hb hown (hts _ (mGw_in ha rfl)) hdg (K _ _ _ rfl ls hl)
theorem sim_ldc_w (C0 : mCx p s m args c cc nL own G cy z sa ro) (hl : mLv (mAd z sa) lo ls) {w : Nat} {x : mR} (hdg : decode cc pc = .ok (.ldc_w w, 3)) (ha : Jvm.Cond.constant own w v32 ∈ lw_tbl)
    (hs : mStep1 ro (.ldc_w w, 3, a1, a2, a3, v32, v64, sw) pc lo st h = some x) (K : mKk p l e R s m args below meth c H locs cells slots Q (mAd z sa) h x) : W p l e R s m args below meth c H locs cells slots Q (F0 m pc ls (st.map (mTv (mAd z sa)))) := by
  obtain ⟨hx, hb, hml, hown, hts, hK, hro, hz⟩ := C0
  simp only [mStep1] at hs
  have := mGo_inv hs
  subst this
  exact lv_ldcw hx hb hown (hts _ (mGw_in ha rfl)) hdg (K _ _ _ rfl ls hl)
theorem sim_ldc2 (C0 : mCx p s m args c cc nL own G cy z sa ro) (hl : mLv (mAd z sa) lo ls) {w : Nat} {x : mR} (hdg : decode cc pc = .ok (.ldc2_w w, 3)) (ha : Jvm.Cond.constantLong own w v64 ∈ lw_tbl)
    (hs : mStep1 ro (.ldc2_w w, 3, a1, a2, a3, v32, v64, sw) pc lo st h = some x) (K : mKk p l e R s m args below meth c H locs cells slots Q (mAd z sa) h x) : W p l e R s m args below meth c H locs cells slots Q (F0 m pc ls (st.map (mTv (mAd z sa)))) := by
  obtain ⟨hx, hb, hml, hown, hts, hK, hro, hz⟩ := C0
  simp only [mStep1] at hs
  have := mGo_inv hs
  subst this
  exact lv_ldc2 hx hb hown (hts _ (mGw_in ha rfl)) hdg (K _ _ _ rfl ls hl)
theorem sim_dup (C0 : mCx p s m args c cc nL own G cy z sa ro) (hl : mLv (mAd z sa) lo ls)  {x : mR} (hdg : decode cc pc = .ok (.dup, 1))
    (hs : mStep1 ro (.dup, 1, a1, a2, a3, v32, v64, sw) pc lo st h = some x) (K : mKk p l e R s m args below meth c H locs cells slots Q (mAd z sa) h x) : W p l e R s m args below meth c H locs cells slots Q (F0 m pc ls (st.map (mTv (mAd z sa)))) := by
  obtain ⟨hx, hb, hml, hown, hts, hK, hro, hz⟩ := C0
  simp only [mStep1] at hs
  split at hs
  · rename_i y r
    cases hc : Nat.beq y.category 1 with
    | false => rw [hc] at hs; cases hs
    | true =>
      rw [hc] at hs
      have := mGo_inv hs
      subst this
      exact lv_dup hx hb hdg (by rw [mTv_cat]; exact Nat.eq_of_beq_eq_true hc) (K _ _ _ rfl ls hl)
  · cases hs
theorem sim_dup2 (C0 : mCx p s m args c cc nL own G cy z sa ro) (hl : mLv (mAd z sa) lo ls)  {x : mR} (hdg : decode cc pc = .ok (.dup2, 1))
    (hs : mStep1 ro (.dup2, 1, a1, a2, a3, v32, v64, sw) pc lo st h = some x) (K : mKk p l e R s m args below meth c H locs cells slots Q (mAd z sa) h x) : W p l e R s m args below meth c H locs cells slots Q (F0 m pc ls (st.map (mTv (mAd z sa)))) := by
  obtain ⟨hx, hb, hml, hown, hts, hK, hro, hz⟩ := C0
  simp only [mStep1] at hs
  split at hs
  · rename_i y w r
    cases hc : (Nat.beq y.category 1 && Nat.beq w.category 1) with
    | false => rw [hc] at hs; cases hs
    | true =>
      rw [hc] at hs
      have := mGo_inv hs
      subst this
      rw [Bool.and_eq_true] at hc
      exact lv_dup2_11 hx hb hdg (by rw [mTv_cat]; exact Nat.eq_of_beq_eq_true hc.1) (by rw [mTv_cat]; exact Nat.eq_of_beq_eq_true hc.2) (K _ _ _ rfl ls hl)
  · cases hs
theorem sim_pop (C0 : mCx p s m args c cc nL own G cy z sa ro) (hl : mLv (mAd z sa) lo ls)  {x : mR} (hdg : decode cc pc = .ok (.pop, 1))
    (hs : mStep1 ro (.pop, 1, a1, a2, a3, v32, v64, sw) pc lo st h = some x) (K : mKk p l e R s m args below meth c H locs cells slots Q (mAd z sa) h x) : W p l e R s m args below meth c H locs cells slots Q (F0 m pc ls (st.map (mTv (mAd z sa)))) := by
  obtain ⟨hx, hb, hml, hown, hts, hK, hro, hz⟩ := C0
  simp only [mStep1] at hs
  split at hs
  · rename_i y r
    cases hc : Nat.beq y.category 1 with
    | false => rw [hc] at hs; cases hs
    | true =>
      rw [hc] at hs
      have := mGo_inv hs
      subst this
      exact lv_pop hx hb hdg (by rw [mTv_cat]; exact Nat.eq_of_beq_eq_true hc) (K _ _ _ rfl ls hl)
  · cases hs
theorem sim_iadd (C0 : mCx p s m args c cc nL own G cy z sa ro) (hl : mLv (mAd z sa) lo ls)  {x : mR} (hdg : decode cc pc = .ok (.iadd, 1))
    (hs : mStep1 ro (.iadd, 1, a1, a2, a3, v32, v64, sw) pc lo st h = some x) (K : mKk p l e R s m args below meth c H locs cells slots Q (mAd z sa) h x) : W p l e R s m args below meth c H locs cells slots Q (F0 m pc ls (st.map (mTv (mAd z sa)))) := by
  obtain ⟨hx, hb, hml, hown, hts, hK, hro, hz⟩ := C0
  simp only [mStep1] at hs
  unfold mI2 at hs
  split at hs
  · have := mGo_inv hs
    subst this
    exact lv_iadd hx hb hdg (K _ _ _ rfl ls hl)
  · cases hs
theorem sim_isub (C0 : mCx p s m args c cc nL own G cy z sa ro) (hl : mLv (mAd z sa) lo ls)  {x : mR} (hdg : decode cc pc = .ok (.isub, 1))
    (hs : mStep1 ro (.isub, 1, a1, a2, a3, v32, v64, sw) pc lo st h = some x) (K : mKk p l e R s m args below meth c H locs cells slots Q (mAd z sa) h x) : W p l e R s m args below meth c H locs cells slots Q (F0 m pc ls (st.map (mTv (mAd z sa)))) := by
  obtain ⟨hx, hb, hml, hown, hts, hK, hro, hz⟩ := C0
  simp only [mStep1] at hs
  unfold mI2 at hs
  split at hs
  · have := mGo_inv hs
    subst this
    exact lv_isub hx hb hdg (K _ _ _ rfl ls hl)
  · cases hs
theorem sim_imul (C0 : mCx p s m args c cc nL own G cy z sa ro) (hl : mLv (mAd z sa) lo ls)  {x : mR} (hdg : decode cc pc = .ok (.imul, 1))
    (hs : mStep1 ro (.imul, 1, a1, a2, a3, v32, v64, sw) pc lo st h = some x) (K : mKk p l e R s m args below meth c H locs cells slots Q (mAd z sa) h x) : W p l e R s m args below meth c H locs cells slots Q (F0 m pc ls (st.map (mTv (mAd z sa)))) := by
  obtain ⟨hx, hb, hml, hown, hts, hK, hro, hz⟩ := C0
  simp only [mStep1] at hs
  unfold mI2 at hs
  split at hs
  · have := mGo_inv hs
    subst this
    exact lv_imul hx hb hdg (K _ _ _ rfl ls hl)
  · cases hs
theorem sim_iand (C0 : mCx p s m args c cc nL own G cy z sa ro) (hl : mLv (mAd z sa) lo ls)  {x : mR} (hdg : decode cc pc = .ok (.iand, 1))
    (hs : mStep1 ro (.iand, 1, a1, a2, a3, v32, v64, sw) pc lo st h = some x) (K : mKk p l e R s m args below meth c H locs cells slots Q (mAd z sa) h x) : W p l e R s m args below meth c H locs cells slots Q (F0 m pc ls (st.map (mTv (mAd z sa)))) := by
  obtain ⟨hx, hb, hml, hown, hts, hK, hro, hz⟩ := C0
  simp only [mStep1] at hs
  unfold mI2 at hs
  split at hs
  · have := mGo_inv hs
    subst this
    exact lv_iand hx hb hdg (K _ _ _ rfl ls hl)
  · cases hs
theorem sim_ior (C0 : mCx p s m args c cc nL own G cy z sa ro) (hl : mLv (mAd z sa) lo ls)  {x : mR} (hdg : decode cc pc = .ok (.ior, 1))
    (hs : mStep1 ro (.ior, 1, a1, a2, a3, v32, v64, sw) pc lo st h = some x) (K : mKk p l e R s m args below meth c H locs cells slots Q (mAd z sa) h x) : W p l e R s m args below meth c H locs cells slots Q (F0 m pc ls (st.map (mTv (mAd z sa)))) := by
  obtain ⟨hx, hb, hml, hown, hts, hK, hro, hz⟩ := C0
  simp only [mStep1] at hs
  unfold mI2 at hs
  split at hs
  · have := mGo_inv hs
    subst this
    exact lv_ior hx hb hdg (K _ _ _ rfl ls hl)
  · cases hs
theorem sim_ixor (C0 : mCx p s m args c cc nL own G cy z sa ro) (hl : mLv (mAd z sa) lo ls)  {x : mR} (hdg : decode cc pc = .ok (.ixor, 1))
    (hs : mStep1 ro (.ixor, 1, a1, a2, a3, v32, v64, sw) pc lo st h = some x) (K : mKk p l e R s m args below meth c H locs cells slots Q (mAd z sa) h x) : W p l e R s m args below meth c H locs cells slots Q (F0 m pc ls (st.map (mTv (mAd z sa)))) := by
  obtain ⟨hx, hb, hml, hown, hts, hK, hro, hz⟩ := C0
  simp only [mStep1] at hs
  unfold mI2 at hs
  split at hs
  · have := mGo_inv hs
    subst this
    exact lv_ixor hx hb hdg (K _ _ _ rfl ls hl)
  · cases hs
theorem sim_ishl (C0 : mCx p s m args c cc nL own G cy z sa ro) (hl : mLv (mAd z sa) lo ls)  {x : mR} (hdg : decode cc pc = .ok (.ishl, 1))
    (hs : mStep1 ro (.ishl, 1, a1, a2, a3, v32, v64, sw) pc lo st h = some x) (K : mKk p l e R s m args below meth c H locs cells slots Q (mAd z sa) h x) : W p l e R s m args below meth c H locs cells slots Q (F0 m pc ls (st.map (mTv (mAd z sa)))) := by
  obtain ⟨hx, hb, hml, hown, hts, hK, hro, hz⟩ := C0
  simp only [mStep1] at hs
  unfold mI2 at hs
  split at hs
  · have := mGo_inv hs
    subst this
    exact lv_ishl hx hb hdg (K _ _ _ rfl ls hl)
  · cases hs
theorem sim_ishr (C0 : mCx p s m args c cc nL own G cy z sa ro) (hl : mLv (mAd z sa) lo ls)  {x : mR} (hdg : decode cc pc = .ok (.ishr, 1))
    (hs : mStep1 ro (.ishr, 1, a1, a2, a3, v32, v64, sw) pc lo st h = some x) (K : mKk p l e R s m args below meth c H locs cells slots Q (mAd z sa) h x) : W p l e R s m args below meth c H locs cells slots Q (F0 m pc ls (st.map (mTv (mAd z sa)))) := by
  obtain ⟨hx, hb, hml, hown, hts, hK, hro, hz⟩ := C0
  simp only [mStep1] at hs
  unfold mI2 at hs
  split at hs
  · have := mGo_inv hs
    subst this
    exact lv_ishr hx hb hdg (K _ _ _ rfl ls hl)
  · cases hs
theorem sim_iushr (C0 : mCx p s m args c cc nL own G cy z sa ro) (hl : mLv (mAd z sa) lo ls)  {x : mR} (hdg : decode cc pc = .ok (.iushr, 1))
    (hs : mStep1 ro (.iushr, 1, a1, a2, a3, v32, v64, sw) pc lo st h = some x) (K : mKk p l e R s m args below meth c H locs cells slots Q (mAd z sa) h x) : W p l e R s m args below meth c H locs cells slots Q (F0 m pc ls (st.map (mTv (mAd z sa)))) := by
  obtain ⟨hx, hb, hml, hown, hts, hK, hro, hz⟩ := C0
  simp only [mStep1] at hs
  unfold mI2 at hs
  split at hs
  · have := mGo_inv hs
    subst this
    exact lv_iushr hx hb hdg rfl (K _ _ _ rfl ls hl)
  · cases hs
theorem sim_ladd (C0 : mCx p s m args c cc nL own G cy z sa ro) (hl : mLv (mAd z sa) lo ls)  {x : mR} (hdg : decode cc pc = .ok (.ladd, 1))
    (hs : mStep1 ro (.ladd, 1, a1, a2, a3, v32, v64, sw) pc lo st h = some x) (K : mKk p l e R s m args below meth c H locs cells slots Q (mAd z sa) h x) : W p l e R s m args below meth c H locs cells slots Q (F0 m pc ls (st.map (mTv (mAd z sa)))) := by
  obtain ⟨hx, hb, hml, hown, hts, hK, hro, hz⟩ := C0
  simp only [mStep1] at hs
  unfold mL2 at hs
  split at hs
  · have := mGo_inv hs
    subst this
    exact lv_ladd hx hb hdg (K _ _ _ rfl ls hl)
  · cases hs
theorem sim_lsub (C0 : mCx p s m args c cc nL own G cy z sa ro) (hl : mLv (mAd z sa) lo ls)  {x : mR} (hdg : decode cc pc = .ok (.lsub, 1))
    (hs : mStep1 ro (.lsub, 1, a1, a2, a3, v32, v64, sw) pc lo st h = some x) (K : mKk p l e R s m args below meth c H locs cells slots Q (mAd z sa) h x) : W p l e R s m args below meth c H locs cells slots Q (F0 m pc ls (st.map (mTv (mAd z sa)))) := by
  obtain ⟨hx, hb, hml, hown, hts, hK, hro, hz⟩ := C0
  simp only [mStep1] at hs
  unfold mL2 at hs
  split at hs
  · have := mGo_inv hs
    subst this
    exact lv_lsub hx hb hdg (K _ _ _ rfl ls hl)
  · cases hs
theorem sim_lmul (C0 : mCx p s m args c cc nL own G cy z sa ro) (hl : mLv (mAd z sa) lo ls)  {x : mR} (hdg : decode cc pc = .ok (.lmul, 1))
    (hs : mStep1 ro (.lmul, 1, a1, a2, a3, v32, v64, sw) pc lo st h = some x) (K : mKk p l e R s m args below meth c H locs cells slots Q (mAd z sa) h x) : W p l e R s m args below meth c H locs cells slots Q (F0 m pc ls (st.map (mTv (mAd z sa)))) := by
  obtain ⟨hx, hb, hml, hown, hts, hK, hro, hz⟩ := C0
  simp only [mStep1] at hs
  unfold mL2 at hs
  split at hs
  · have := mGo_inv hs
    subst this
    exact lv_lmul hx hb hdg (K _ _ _ rfl ls hl)
  · cases hs
theorem sim_land (C0 : mCx p s m args c cc nL own G cy z sa ro) (hl : mLv (mAd z sa) lo ls)  {x : mR} (hdg : decode cc pc = .ok (.land, 1))
    (hs : mStep1 ro (.land, 1, a1, a2, a3, v32, v64, sw) pc lo st h = some x) (K : mKk p l e R s m args below meth c H locs cells slots Q (mAd z sa) h x) : W p l e R s m args below meth c H locs cells slots Q (F0 m pc ls (st.map (mTv (mAd z sa)))) := by
  obtain ⟨hx, hb, hml, hown, hts, hK, hro, hz⟩ := C0
  simp only [mStep1] at hs
  unfold mL2 at hs
  split at hs
  · have := mGo_inv hs
    subst this
    exact lv_land hx hb hdg (K _ _ _ rfl ls hl)
  · cases hs
theorem sim_lor (C0 : mCx p s m args c cc nL own G cy z sa ro) (hl : mLv (mAd z sa) lo ls)  {x : mR} (hdg : decode cc pc = .ok (.lor, 1))
    (hs : mStep1 ro (.lor, 1, a1, a2, a3, v32, v64, sw) pc lo st h = some x) (K : mKk p l e R s m args below meth c H locs cells slots Q (mAd z sa) h x) : W p l e R s m args below meth c H locs cells slots Q (F0 m pc ls (st.map (mTv (mAd z sa)))) := by
  obtain ⟨hx, hb, hml, hown, hts, hK, hro, hz⟩ := C0
  simp only [mStep1] at hs
  unfold mL2 at hs
  split at hs
  · have := mGo_inv hs
    subst this
    exact lv_lor hx hb hdg (K _ _ _ rfl ls hl)
  · cases hs
theorem sim_lshl (C0 : mCx p s m args c cc nL own G cy z sa ro) (hl : mLv (mAd z sa) lo ls)  {x : mR} (hdg : decode cc pc = .ok (.lshl, 1))
    (hs : mStep1 ro (.lshl, 1, a1, a2, a3, v32, v64, sw) pc lo st h = some x) (K : mKk p l e R s m args below meth c H locs cells slots Q (mAd z sa) h x) : W p l e R s m args below meth c H locs cells slots Q (F0 m pc ls (st.map (mTv (mAd z sa)))) := by
  obtain ⟨hx, hb, hml, hown, hts, hK, hro, hz⟩ := C0
  simp only [mStep1] at hs
  unfold mLI at hs
  split at hs
  · have := mGo_inv hs
    subst this
    exact lv_lshl hx hb hdg rfl (K _ _ _ rfl ls hl)
  · cases hs
theorem sim_lshr (C0 : mCx p s m args c cc nL own G cy z sa ro) (hl : mLv (mAd z sa) lo ls)  {x : mR} (hdg : decode cc pc = .ok (.lshr, 1))
    (hs : mStep1 ro (.lshr, 1, a1, a2, a3, v32, v64, sw) pc lo st h = some x) (K : mKk p l e R s m args below meth c H locs cells slots Q (mAd z sa) h x) : W p l e R s m args below meth c H locs cells slots Q (F0 m pc ls (st.map (mTv (mAd z sa)))) := by
  obtain ⟨hx, hb, hml, hown, hts, hK, hro, hz⟩ := C0
  simp only [mStep1] at hs
  unfold mLI at hs
  split at hs
  · have := mGo_inv hs
    subst this
    exact lv_lshr hx hb hdg rfl (K _ _ _ rfl ls hl)
  · cases hs
theorem sim_lushr (C0 : mCx p s m args c cc nL own G cy z sa ro) (hl : mLv (mAd z sa) lo ls)  {x : mR} (hdg : decode cc pc = .ok (.lushr, 1))
    (hs : mStep1 ro (.lushr, 1, a1, a2, a3, v32, v64, sw) pc lo st h = some x) (K : mKk p l e R s m args below meth c H locs cells slots Q (mAd z sa) h x) : W p l e R s m args below meth c H locs cells slots Q (F0 m pc ls (st.map (mTv (mAd z sa)))) := by
  obtain ⟨hx, hb, hml, hown, hts, hK, hro, hz⟩ := C0
  simp only [mStep1] at hs
  unfold mLI at hs
  split at hs
  · have := mGo_inv hs
    subst this
    exact lv_lushr hx hb hdg rfl (K _ _ _ rfl ls hl)
  · cases hs
theorem sim_idiv (C0 : mCx p s m args c cc nL own G cy z sa ro) (hl : mLv (mAd z sa) lo ls)  {x : mR} (hdg : decode cc pc = .ok (.idiv, 1))
    (hs : mStep1 ro (.idiv, 1, a1, a2, a3, v32, v64, sw) pc lo st h = some x) (K : mKk p l e R s m args below meth c H locs cells slots Q (mAd z sa) h x) : W p l e R s m args below meth c H locs cells slots Q (F0 m pc ls (st.map (mTv (mAd z sa)))) := by
  obtain ⟨hx, hb, hml, hown, hts, hK, hro, hz⟩ := C0
  simp only [mStep1] at hs
  split at hs
  · split at hs
    · cases hs
    · rename_i hne
      have := mGo_inv hs
      subst this
      exact lv_idiv hx hb hdg hne (K _ _ _ rfl ls hl)
  · cases hs
theorem sim_irem (C0 : mCx p s m args c cc nL own G cy z sa ro) (hl : mLv (mAd z sa) lo ls)  {x : mR} (hdg : decode cc pc = .ok (.irem, 1))
    (hs : mStep1 ro (.irem, 1, a1, a2, a3, v32, v64, sw) pc lo st h = some x) (K : mKk p l e R s m args below meth c H locs cells slots Q (mAd z sa) h x) : W p l e R s m args below meth c H locs cells slots Q (F0 m pc ls (st.map (mTv (mAd z sa)))) := by
  obtain ⟨hx, hb, hml, hown, hts, hK, hro, hz⟩ := C0
  simp only [mStep1] at hs
  split at hs
  · split at hs
    · cases hs
    · rename_i hne
      have := mGo_inv hs
      subst this
      exact lv_irem hx hb hdg hne (K _ _ _ rfl ls hl)
  · cases hs
theorem sim_ineg (C0 : mCx p s m args c cc nL own G cy z sa ro) (hl : mLv (mAd z sa) lo ls)  {x : mR} (hdg : decode cc pc = .ok (.ineg, 1))
    (hs : mStep1 ro (.ineg, 1, a1, a2, a3, v32, v64, sw) pc lo st h = some x) (K : mKk p l e R s m args below meth c H locs cells slots Q (mAd z sa) h x) : W p l e R s m args below meth c H locs cells slots Q (F0 m pc ls (st.map (mTv (mAd z sa)))) := by
  obtain ⟨hx, hb, hml, hown, hts, hK, hro, hz⟩ := C0
  simp only [mStep1] at hs
  split at hs
  · have := mGo_inv hs
    subst this
    exact lv_ineg hx hb hdg (K _ _ _ rfl ls hl)
  · cases hs
theorem sim_i2l (C0 : mCx p s m args c cc nL own G cy z sa ro) (hl : mLv (mAd z sa) lo ls)  {x : mR} (hdg : decode cc pc = .ok (.i2l, 1))
    (hs : mStep1 ro (.i2l, 1, a1, a2, a3, v32, v64, sw) pc lo st h = some x) (K : mKk p l e R s m args below meth c H locs cells slots Q (mAd z sa) h x) : W p l e R s m args below meth c H locs cells slots Q (F0 m pc ls (st.map (mTv (mAd z sa)))) := by
  obtain ⟨hx, hb, hml, hown, hts, hK, hro, hz⟩ := C0
  simp only [mStep1] at hs
  split at hs
  · have := mGo_inv hs
    subst this
    exact lv_i2l hx hb hdg rfl (K _ _ _ rfl ls hl)
  · cases hs
theorem sim_l2i (C0 : mCx p s m args c cc nL own G cy z sa ro) (hl : mLv (mAd z sa) lo ls)  {x : mR} (hdg : decode cc pc = .ok (.l2i, 1))
    (hs : mStep1 ro (.l2i, 1, a1, a2, a3, v32, v64, sw) pc lo st h = some x) (K : mKk p l e R s m args below meth c H locs cells slots Q (mAd z sa) h x) : W p l e R s m args below meth c H locs cells slots Q (F0 m pc ls (st.map (mTv (mAd z sa)))) := by
  obtain ⟨hx, hb, hml, hown, hts, hK, hro, hz⟩ := C0
  simp only [mStep1] at hs
  split at hs
  · have := mGo_inv hs
    subst this
    exact lv_l2i hx hb hdg rfl (K _ _ _ rfl ls hl)
  · cases hs
theorem sim_i2b (C0 : mCx p s m args c cc nL own G cy z sa ro) (hl : mLv (mAd z sa) lo ls)  {x : mR} (hdg : decode cc pc = .ok (.i2b, 1))
    (hs : mStep1 ro (.i2b, 1, a1, a2, a3, v32, v64, sw) pc lo st h = some x) (K : mKk p l e R s m args below meth c H locs cells slots Q (mAd z sa) h x) : W p l e R s m args below meth c H locs cells slots Q (F0 m pc ls (st.map (mTv (mAd z sa)))) := by
  obtain ⟨hx, hb, hml, hown, hts, hK, hro, hz⟩ := C0
  simp only [mStep1] at hs
  split at hs
  · have := mGo_inv hs
    subst this
    exact lv_i2b hx hb hdg rfl (K _ _ _ rfl ls hl)
  · cases hs
theorem sim_lcmp (C0 : mCx p s m args c cc nL own G cy z sa ro) (hl : mLv (mAd z sa) lo ls)  {x : mR} (hdg : decode cc pc = .ok (.lcmp, 1))
    (hs : mStep1 ro (.lcmp, 1, a1, a2, a3, v32, v64, sw) pc lo st h = some x) (K : mKk p l e R s m args below meth c H locs cells slots Q (mAd z sa) h x) : W p l e R s m args below meth c H locs cells slots Q (F0 m pc ls (st.map (mTv (mAd z sa)))) := by
  obtain ⟨hx, hb, hml, hown, hts, hK, hro, hz⟩ := C0
  simp only [mStep1] at hs
  split at hs
  · have := mGo_inv hs
    subst this
    rw [mLc_eq] at K
    exact W.lcmp hx hb hdg (K _ _ _ rfl ls hl)
  · cases hs
theorem sim_goto (C0 : mCx p s m args c cc nL own G cy z sa ro) (hl : mLv (mAd z sa) lo ls) {off : Int} {x : mR} (hdg : decode cc pc = .ok (.goto off, 3)) (ha : (pc : Int) + off = (a1 : Int))
    (hs : mStep1 ro (.goto off, 3, a1, a2, a3, v32, v64, sw) pc lo st h = some x) (K : mKk p l e R s m args below meth c H locs cells slots Q (mAd z sa) h x) : W p l e R s m args below meth c H locs cells slots Q (F0 m pc ls (st.map (mTv (mAd z sa)))) := by
  obtain ⟨hx, hb, hml, hown, hts, hK, hro, hz⟩ := C0
  simp only [mStep1] at hs
  have := mGo_inv hs
  subst this
  exact lv_goto hx hb hdg ha (K _ _ _ rfl ls hl)
theorem sim_icmp_eq (C0 : mCx p s m args c cc nL own G cy z sa ro) (hl : mLv (mAd z sa) lo ls) {off : Int} {x : mR} (hdg : decode cc pc = .ok (.if_icmp .eq off, 3)) (ha : (pc : Int) + off = (a1 : Int))
    (hs : mStep1 ro (.if_icmp .eq off, 3, a1, a2, a3, v32, v64, sw) pc lo st h = some x) (K : mKk p l e R s m args below meth c H locs cells slots Q (mAd z sa) h x) : W p l e R s m args below meth c H locs cells slots Q (F0 m pc ls (st.map (mTv (mAd z sa)))) := by
  obtain ⟨hx, hb, hml, hown, hts, hK, hro, hz⟩ := C0
  simp only [mStep1] at hs
  split at hs
  · have := mGo_inv hs
    subst this
    refine lv_icmp_eq hx hb hdg ha (fun hc => ?_) (fun hc => ?_)
    · exact K _ _ _ (by simp only [mCd]; rw [if_pos hc]) ls hl
    · exact K _ _ _ (by simp only [mCd]; rw [if_neg hc]) ls hl
  · cases hs
theorem sim_if_eq (C0 : mCx p s m args c cc nL own G cy z sa ro) (hl : mLv (mAd z sa) lo ls) {off : Int} {x : mR} (hdg : decode cc pc = .ok (.ifCond .eq off, 3)) (ha : (pc : Int) + off = (a1 : Int))
    (hs : mStep1 ro (.ifCond .eq off, 3, a1, a2, a3, v32, v64, sw) pc lo st h = some x) (K : mKk p l e R s m args below meth c H locs cells slots Q (mAd z sa) h x) : W p l e R s m args below meth c H locs cells slots Q (F0 m pc ls (st.map (mTv (mAd z sa)))) := by
  obtain ⟨hx, hb, hml, hown, hts, hK, hro, hz⟩ := C0
  simp only [mStep1] at hs
  split at hs
  · have := mGo_inv hs
    subst this
    refine lv_if_eq hx hb hdg ha (fun hc => ?_) (fun hc => ?_)
    · exact K _ _ _ (by simp only [mCd]; rw [if_pos hc]) ls hl
    · exact K _ _ _ (by simp only [mCd]; rw [if_neg hc]) ls hl
  · cases hs
theorem sim_icmp_ne (C0 : mCx p s m args c cc nL own G cy z sa ro) (hl : mLv (mAd z sa) lo ls) {off : Int} {x : mR} (hdg : decode cc pc = .ok (.if_icmp .ne off, 3)) (ha : (pc : Int) + off = (a1 : Int))
    (hs : mStep1 ro (.if_icmp .ne off, 3, a1, a2, a3, v32, v64, sw) pc lo st h = some x) (K : mKk p l e R s m args below meth c H locs cells slots Q (mAd z sa) h x) : W p l e R s m args below meth c H locs cells slots Q (F0 m pc ls (st.map (mTv (mAd z sa)))) := by
  obtain ⟨hx, hb, hml, hown, hts, hK, hro, hz⟩ := C0
  simp only [mStep1] at hs
  split at hs
  · have := mGo_inv hs
    subst this
    refine lv_icmp_ne hx hb hdg ha (fun hc => ?_) (fun hc => ?_)
    · exact K _ _ _ (by simp only [mCd]; rw [if_pos hc]) ls hl
    · exact K _ _ _ (by simp only [mCd]; rw [if_neg (not_not_intro hc)]) ls hl
  · cases hs
theorem sim_if_ne (C0 : mCx p s m args c cc nL own G cy z sa ro) (hl : mLv (mAd z sa) lo ls) {off : Int} {x : mR} (hdg : decode cc pc = .ok (.ifCond .ne off, 3)) (ha : (pc : Int) + off = (a1 : Int))
    (hs : mStep1 ro (.ifCond .ne off, 3, a1, a2, a3, v32, v64, sw) pc lo st h = some x) (K : mKk p l e R s m args below meth c H locs cells slots Q (mAd z sa) h x) : W p l e R s m args below meth c H locs cells slots Q (F0 m pc ls (st.map (mTv (mAd z sa)))) := by
  obtain ⟨hx, hb, hml, hown, hts, hK, hro, hz⟩ := C0
  simp only [mStep1] at hs
  split at hs
  · have := mGo_inv hs
    subst this
    refine lv_if_ne hx hb hdg ha (fun hc => ?_) (fun hc => ?_)
    · exact K _ _ _ (by simp only [mCd]; rw [if_pos hc]) ls hl
    · exact K _ _ _ (by simp only [mCd]; rw [if_neg (not_not_intro hc)]) ls hl
  · cases hs
theorem sim_icmp_lt (C0 : mCx p s m args c cc nL own G cy z sa ro) (hl : mLv (mAd z sa) lo ls) {off : Int} {x : mR} (hdg : decode cc pc = .ok (.if_icmp .lt off, 3)) (ha : (pc : Int) + off = (a1 : Int))
    (hs : mStep1 ro (.if_icmp .lt off, 3, a1, a2, a3, v32, v64, sw) pc lo st h = some x) (K : mKk p l e R s m args below meth c H locs cells slots Q (mAd z sa) h x) : W p l e R s m args below meth c H locs cells slots Q (F0 m pc ls (st.map (mTv (mAd z sa)))) := by
  obtain ⟨hx, hb, hml, hown, hts, hK, hro, hz⟩ := C0
  simp only [mStep1] at hs
  split at hs
  · have := mGo_inv hs
    subst this
    refine lv_icmp_lt hx hb hdg ha (fun hc => ?_) (fun hc => ?_)
    · exact K _ _ _ (by simp only [mCd]; rw [if_pos hc]) ls hl
    · exact K _ _ _ (by simp only [mCd]; rw [if_neg hc]) ls hl
  · cases hs
theorem sim_if_lt (C0 : mCx p s m args c cc nL own G cy z sa ro) (hl : mLv (mAd z sa) lo ls) {off : Int} {x : mR} (hdg : decode cc pc = .ok (.ifCond .lt off, 3)) (ha : (pc : Int) + off = (a1 : Int))
    (hs : mStep1 ro (.ifCond .lt off, 3, a1, a2, a3, v32, v64, sw) pc lo st h = some x) (K : mKk p l e R s m args below meth c H locs cells slots Q (mAd z sa) h x) : W p l e R s m args below meth c H locs cells slots Q (F0 m pc ls (st.map (mTv (mAd z sa)))) := by
  obtain ⟨hx, hb, hml, hown, hts, hK, hro, hz⟩ := C0
  simp only [mStep1] at hs
  split at hs
  · have := mGo_inv hs
    subst this
    refine lv_if_lt hx hb hdg ha (fun hc => ?_) (fun hc => ?_)
    · exact K _ _ _ (by simp only [mCd]; rw [if_pos hc]) ls hl
    · exact K _ _ _ (by simp only [mCd]; rw [if_neg hc]) ls hl
  · cases hs
theorem sim_icmp_ge (C0 : mCx p s m args c cc nL own G cy z sa ro) (hl : mLv (mAd z sa) lo ls) {off : Int} {x : mR} (hdg : decode cc pc = .ok (.if_icmp .ge off, 3)) (ha : (pc : Int) + off = (a1 : Int))
    (hs : mStep1 ro (.if_icmp .ge off, 3, a1, a2, a3, v32, v64, sw) pc lo st h = some x) (K : mKk p l e R s m args below meth c H locs cells slots Q (mAd z sa) h x) : W p l e R s m args below meth c H locs cells slots Q (F0 m pc ls (st.map (mTv (mAd z sa)))) := by
  obtain ⟨hx, hb, hml, hown, hts, hK, hro, hz⟩ := C0
  simp only [mStep1] at hs
  split at hs
  · have := mGo_inv hs
    subst this
    refine lv_icmp_ge hx hb hdg ha (fun hc => ?_) (fun hc => ?_)
    · exact K _ _ _ (by simp only [mCd]; rw [if_pos hc]) ls hl
    · exact K _ _ _ (by simp only [mCd]; rw [if_neg hc]) ls hl
  · cases hs
theorem sim_if_ge (C0 : mCx p s m args c cc nL own G cy z sa ro) (hl : mLv (mAd z sa) lo ls) {off : Int} {x : mR} (hdg : decode cc pc = .ok (.ifCond .ge off, 3)) (ha : (pc : Int) + off = (a1 : Int))
    (hs : mStep1 ro (.ifCond .ge off, 3, a1, a2, a3, v32, v64, sw) pc lo st h = some x) (K : mKk p l e R s m args below meth c H locs cells slots Q (mAd z sa) h x) : W p l e R s m args below meth c H locs cells slots Q (F0 m pc ls (st.map (mTv (mAd z sa)))) := by
  obtain ⟨hx, hb, hml, hown, hts, hK, hro, hz⟩ := C0
  simp only [mStep1] at hs
  split at hs
  · have := mGo_inv hs
    subst this
    refine lv_if_ge hx hb hdg ha (fun hc => ?_) (fun hc => ?_)
    · exact K _ _ _ (by simp only [mCd]; rw [if_pos hc]) ls hl
    · exact K _ _ _ (by simp only [mCd]; rw [if_neg hc]) ls hl
  · cases hs
theorem sim_icmp_gt (C0 : mCx p s m args c cc nL own G cy z sa ro) (hl : mLv (mAd z sa) lo ls) {off : Int} {x : mR} (hdg : decode cc pc = .ok (.if_icmp .gt off, 3)) (ha : (pc : Int) + off = (a1 : Int))
    (hs : mStep1 ro (.if_icmp .gt off, 3, a1, a2, a3, v32, v64, sw) pc lo st h = some x) (K : mKk p l e R s m args below meth c H locs cells slots Q (mAd z sa) h x) : W p l e R s m args below meth c H locs cells slots Q (F0 m pc ls (st.map (mTv (mAd z sa)))) := by
  obtain ⟨hx, hb, hml, hown, hts, hK, hro, hz⟩ := C0
  simp only [mStep1] at hs
  split at hs
  · have := mGo_inv hs
    subst this
    refine lv_icmp_gt hx hb hdg ha (fun hc => ?_) (fun hc => ?_)
    · exact K _ _ _ (by simp only [mCd]; rw [if_pos hc]) ls hl
    · exact K _ _ _ (by simp only [mCd]; rw [if_neg hc]) ls hl
  · cases hs
theorem sim_if_gt (C0 : mCx p s m args c cc nL own G cy z sa ro) (hl : mLv (mAd z sa) lo ls) {off : Int} {x : mR} (hdg : decode cc pc = .ok (.ifCond .gt off, 3)) (ha : (pc : Int) + off = (a1 : Int))
    (hs : mStep1 ro (.ifCond .gt off, 3, a1, a2, a3, v32, v64, sw) pc lo st h = some x) (K : mKk p l e R s m args below meth c H locs cells slots Q (mAd z sa) h x) : W p l e R s m args below meth c H locs cells slots Q (F0 m pc ls (st.map (mTv (mAd z sa)))) := by
  obtain ⟨hx, hb, hml, hown, hts, hK, hro, hz⟩ := C0
  simp only [mStep1] at hs
  split at hs
  · have := mGo_inv hs
    subst this
    refine lv_if_gt hx hb hdg ha (fun hc => ?_) (fun hc => ?_)
    · exact K _ _ _ (by simp only [mCd]; rw [if_pos hc]) ls hl
    · exact K _ _ _ (by simp only [mCd]; rw [if_neg hc]) ls hl
  · cases hs
theorem sim_icmp_le (C0 : mCx p s m args c cc nL own G cy z sa ro) (hl : mLv (mAd z sa) lo ls) {off : Int} {x : mR} (hdg : decode cc pc = .ok (.if_icmp .le off, 3)) (ha : (pc : Int) + off = (a1 : Int))
    (hs : mStep1 ro (.if_icmp .le off, 3, a1, a2, a3, v32, v64, sw) pc lo st h = some x) (K : mKk p l e R s m args below meth c H locs cells slots Q (mAd z sa) h x) : W p l e R s m args below meth c H locs cells slots Q (F0 m pc ls (st.map (mTv (mAd z sa)))) := by
  obtain ⟨hx, hb, hml, hown, hts, hK, hro, hz⟩ := C0
  simp only [mStep1] at hs
  split at hs
  · have := mGo_inv hs
    subst this
    refine lv_icmp_le hx hb hdg ha (fun hc => ?_) (fun hc => ?_)
    · exact K _ _ _ (by simp only [mCd]; rw [if_pos hc]) ls hl
    · exact K _ _ _ (by simp only [mCd]; rw [if_neg hc]) ls hl
  · cases hs
theorem sim_if_le (C0 : mCx p s m args c cc nL own G cy z sa ro) (hl : mLv (mAd z sa) lo ls) {off : Int} {x : mR} (hdg : decode cc pc = .ok (.ifCond .le off, 3)) (ha : (pc : Int) + off = (a1 : Int))
    (hs : mStep1 ro (.ifCond .le off, 3, a1, a2, a3, v32, v64, sw) pc lo st h = some x) (K : mKk p l e R s m args below meth c H locs cells slots Q (mAd z sa) h x) : W p l e R s m args below meth c H locs cells slots Q (F0 m pc ls (st.map (mTv (mAd z sa)))) := by
  obtain ⟨hx, hb, hml, hown, hts, hK, hro, hz⟩ := C0
  simp only [mStep1] at hs
  split at hs
  · have := mGo_inv hs
    subst this
    refine lv_if_le hx hb hdg ha (fun hc => ?_) (fun hc => ?_)
    · exact K _ _ _ (by simp only [mCd]; rw [if_pos hc]) ls hl
    · exact K _ _ _ (by simp only [mCd]; rw [if_neg hc]) ls hl
  · cases hs
theorem sim_lookupswitch (C0 : mCx p s m args c cc nL own G cy z sa ro) (hl : mLv (mAd z sa) lo ls) {d : Int} {ps : Array (Int × Int)} {x : mR} (hdg : decode cc pc = .ok (.lookupswitch d ps, len)) (ha : (pc : Int) + d = (a1 : Int)) (hk : mLkOk (pc : Int) ps.toList sw = true) (hinc : (ps.toList.zip (ps.toList.drop 1)).all (fun (a, next) => a.1 < next.1) = true)
    (hs : mStep1 ro (.lookupswitch d ps, len, a1, a2, a3, v32, v64, sw) pc lo st h = some x) (K : mKk p l e R s m args below meth c H locs cells slots Q (mAd z sa) h x) : W p l e R s m args below meth c H locs cells slots Q (F0 m pc ls (st.map (mTv (mAd z sa)))) := by
  obtain ⟨hx, hb, hml, hown, hts, hK, hro, hz⟩ := C0
  simp only [mStep1] at hs
  split at hs
  · have := mGo_inv hs
    subst this
    exact lv_lookup hx hb hdg hinc rfl (mSw_lk ha _ _ _ hk) (K _ _ _ rfl ls hl)
  · cases hs
theorem sim_tableswitch (C0 : mCx p s m args c cc nL own G cy z sa ro) (hl : mLv (mAd z sa) lo ls) {d tl th : Int} {os : Array Int} {x : mR} (hdg : decode cc pc = .ok (.tableswitch d tl th os, len)) (ha : (pc : Int) + d = (a1 : Int)) (hth : th = tl + os.size - 1) (hr : -2147483648 ≤ tl ∧ th ≤ 2147483647) (hk : mSwOk (pc : Int) tl 0 os.toList sw = true)
    (hs : mStep1 ro (.tableswitch d tl th os, len, a1, a2, a3, v32, v64, sw) pc lo st h = some x) (K : mKk p l e R s m args below meth c H locs cells slots Q (mAd z sa) h x) : W p l e R s m args below meth c H locs cells slots Q (F0 m pc ls (st.map (mTv (mAd z sa)))) := by
  obtain ⟨hx, hb, hml, hown, hts, hK, hro, hz⟩ := C0
  simp only [mStep1] at hs
  split at hs
  · rename_i y r
    have := mGo_inv hs
    subst this
    obtain ⟨t1, t2⟩ := mSw_tb (a1 := a1) y hr.1 os.toList sw 0 hk (by rw [Array.length_toList]; omega)
    by_cases hin : tl ≤ y.toInt ∧ y.toInt ≤ th
    · have hlt : (y.toInt - tl).toNat < os.size := by omega
      have hget : os[(y.toInt - tl).toNat]? = some os[(y.toInt - tl).toNat] := Array.getElem?_eq_getElem hlt
      exact lv_tableIn hx hb hdg (by omega) (by omega) hget (t1 (y.toInt - tl).toNat _ (by rw [Array.getElem?_toList]; exact hget) (by omega)) (K _ _ _ rfl ls hl)
    · have e := t2 (fun j hj => by rw [Array.length_toList] at hj; omega)
      exact lv_tableOut hx hb hdg (by omega) (by rw [e]; exact ha) (K _ _ _ rfl ls hl)
  · cases hs
end S1
end
section
/-! the instructions that read cells or change them -/
theorem mAd_lo {z : Nat} {sa : Nat → Nat} {k : Nat} (h : k < mBase) : mAd z sa k = z + k := if_pos h
theorem mAd_hi (z : Nat) (sa : Nat → Nat) (i : Nat) : mAd z sa (mBase + i) = sa i := by
  unfold mAd
  rw [if_neg (by omega), show mBase + i - mBase = i by omega]
theorem mCl_at {ci : Nat} (h : ci < 13) : vwCl[ci]? = some (mCn ci, mT ci, mNf ci) := by
  have key : ∀ k : Fin 13, vwCl[k.val]? = some (mCn k.val, mT k.val, mNf k.val) := fun k => match k with
    | 0 => rfl | 1 => rfl | 2 => rfl | 3 => rfl | 4 => rfl | 5 => rfl | 6 => rfl | 7 => rfl | 8 => rfl | 9 => rfl | 10 => rfl | 11 => rfl | 12 => rfl
  exact key ⟨ci, h⟩
theorem mBd_ws {C : String} {T : u_T} {N : Nat} {w : Jvm.Cond} (h : w ∈ u_ws C T N) : mBd w = false := by
  obtain ⟨k, -, rfl⟩ := List.mem_map.mp h
  unfold u_lay
  split <;> rfl
theorem mCl_in {ci : Nat} (h : ci < 13) : ∀ w ∈ u_ws (mCn ci) (mT ci) (mNf ci), w ∈ mGw := by
  refine fun w hw => mGw_in ?_ (mBd_ws hw)
  revert w
  have key : ∀ k : Fin 13, ∀ w ∈ u_ws (mCn k.val) (mT k.val) (mNf k.val), w ∈ lw_tbl := fun k => match k with
    | 0 => inX0 | 1 => inX1 | 2 => inX2 | 3 => inX3 | 4 => inX4 | 5 => inX5 | 6 => inX6 | 7 => inX7 | 8 => inX8 | 9 => inX9 | 10 => inX10 | 11 => inX11 | 12 => inX12
  exact key ⟨ci, h⟩
def mTy (ci j : Nat) : FieldType := match parseFieldDescriptor (mT ci j).2.2.1 with
  | some t => t
  | none => .int
theorem mCl_ty {ci : Nat} (h : ci < 13) : ∀ j, j < mNf ci → parseFieldDescriptor (mT ci j).2.2.1 = some (mTy ci j) := by
  have key : ∀ k : Fin 13, ∃ ty : Nat → FieldType, ∀ j, j < mNf k.val → parseFieldDescriptor (mT k.val j).2.2.1 = some (ty j) := fun k => match k with
    | 0 => ⟨_, tyX0_ok⟩ | 1 => ⟨_, tyX1_ok⟩ | 2 => ⟨_, tyX2_ok⟩ | 3 => ⟨_, tyX3_ok⟩ | 4 => ⟨_, tyX4_ok⟩ | 5 => ⟨_, tyX5_ok⟩ | 6 => ⟨_, tyX6_ok⟩ | 7 => ⟨_, tyX7_ok⟩ | 8 => ⟨_, tyX8_ok⟩ | 9 => ⟨_, tyX9_ok⟩ | 10 => ⟨_, tyX10_ok⟩ | 11 => ⟨_, tyX11_ok⟩ | 12 => ⟨_, tyX12_ok⟩
  intro j hj
  obtain ⟨ty, hty⟩ := key ⟨ci, h⟩
  have := hty j hj
  unfold mTy
  rw [this]
theorem mCl_nm {ci : Nat} (h : ci < 13) : ∀ a, a < mNf ci → ∀ b, b < mNf ci → a ≠ b → (mT ci a).2.1 ≠ (mT ci b).2.1 := by
  have key : ∀ k : Fin 13, ∀ a, a < mNf k.val → ∀ b, b < mNf k.val → a ≠ b → (mT k.val a).2.1 ≠ (mT k.val b).2.1 := fun k => match k with
    | 0 => nmX0 | 1 => nmX1 | 2 => nmX2 | 3 => nmX3 | 4 => nmX4 | 5 => nmX5 | 6 => nmX6 | 7 => nmX7 | 8 => nmX8 | 9 => nmX9 | 10 => nmX10 | 11 => nmX11 | 12 => nmX12
  exact key ⟨ci, h⟩
/-- a field's link -/
def mFd (own : String) (w ci j : Nat) : Prop := Jvm.Cond.fieldLink own w (mT ci j).1 (mT ci j).2.1 (mT ci j).2.2.1 ∈ lw_tbl ∧ j < mNf ci ∧ ci < 13
theorem mIdx {i : Int32} {n : Nat} (h0 : ¬ i < 0) (h1 : i.toNatClampNeg < n) : vp_in i n := fun q => q.elim h0 (fun r => by omega)
theorem mSet_fun {α : Type} (l : List α) (d : α) (i : Nat) (x : α) (h : i < l.length) : (fun j => (l.set i x).getD j d) = (fun j => if j = i then x else l.getD j d) := by
  funext j
  simp only [List.getD_eq_getElem?_getD, List.getElem?_set]
  by_cases hj : i = j
  · subst hj
    simp [h]
  · simp [hj, Ne.symm hj]
section S2
variable {p : Program} {l : Launch} {e : Env} {R : Room} {s : State} {m : MethodId} {args : Array Value} {below : List Frame} {meth : Method} {c : Code} {H : Heap} {locs : List Loc} {cells slots : Nat} {Q : State → Prop}
variable {cc : ByteArray} {nL : Nat} {own : String} {G : va_G} {cy : Nat → ClassId} {z : Nat} {sa : Nat → Nat} {ro : List (List Int32)} {pc len a1 a2 a3 : Nat} {v32 : Int32} {v64 : Int64} {sw : List (Int32 × Nat)} {lo : mO} {st : List Value} {h : mH} {ls : Array Slot} {rk : Nat}
abbrev mKh (p : Program) (l : Launch) (e : Env) (R : Room) (s : State) (m : MethodId) (args : Array Value) (below : List Frame) (meth : Method) (c : Code) (cells slots : Nat) (Q : State → Prop) (G : va_G) (cy : Nat → ClassId) (z : Nat) (sa : Nat → Nat) (x : mR) : Prop :=
  ∀ (pc2 : Nat) (lo2 : mO) (st2 : List Value) (h2 : mH) (dc ds : Nat), x = .inl (pc2, lo2, st2, h2, dc, ds) → ∀ (H2 : Heap) (locs2 : List Loc) (ls2 : Array Slot), mInv G cy z sa s h2 H2 locs2 → mLv (mAd z sa) lo2 ls2 → W p l e R s m args below meth c H2 locs2 (cells + dc) (slots + ds) Q (F0 m pc2 ls2 (st2.map (mTv (mAd z sa))))
theorem sim_getstatic (C0 : mCx p s m args c cc nL own G cy z sa ro) (hI : mInv G cy z sa s h H locs) (hl : mLv (mAd z sa) lo ls) {w : Nat} {x : mR} (hdg : decode cc pc = .ok (.getstatic w, 3)) (ha : Jvm.Cond.fieldLink own w ((mSn[a1]?).getD ("", "")).1 ((mSn[a1]?).getD ("", "")).2 "[I" ∈ lw_tbl) (h5 : a1 < 5)
    (hs : mStep1 ro (.getstatic w, 3, a1, a2, a3, v32, v64, sw) pc lo st h = some x) (K : mKk p l e R s m args below meth c H locs cells slots Q (mAd z sa) h x) : W p l e R s m args below meth c H locs cells slots Q (F0 m pc ls (st.map (mTv (mAd z sa)))) := by
  obtain ⟨hx, hb, hml, hown, hts, hK, hro, hz⟩ := C0
  simp only [mStep1] at hs
  have := mGo_inv hs
  subst this
  refine va_gets hx hb (hro.1 a1 h5) hI.2.2 hown (hts _ (mGw_in ha rfl)) (fun _ h9 => h9) hdg ?_
  have := K _ _ _ rfl ls hl
  rw [List.map_cons, show mTv (mAd z sa) (.ref (mBase + a1)) = .ref (sa a1) from by rw [← mAd_hi z sa a1]; rfl] at this
  exact this
theorem sim_getfield (C0 : mCx p s m args c cc nL own G cy z sa ro) (hI : mInv G cy z sa s h H locs) (hl : mLv (mAd z sa) lo ls) {w : Nat} {x : mR} (hdg : decode cc pc = .ok (.getfield w, 3)) (hf : mFd own w a1 a2)
    (hs : mStep1 ro (.getfield w, 3, a1, a2, a3, v32, v64, sw) pc lo st h = some x) (K : mKk p l e R s m args below meth c H locs cells slots Q (mAd z sa) h x) : W p l e R s m args below meth c H locs cells slots Q (F0 m pc ls (st.map (mTv (mAd z sa)))) := by
  obtain ⟨hx, hb, hml, hown, hts, hK, hro, hz⟩ := C0
  simp only [mStep1] at hs
  split at hs
  · rename_i k r
    split at hs
    · rename_i ci fs hh
      cases hc : Nat.beq ci a1 with
      | false => rw [hc] at hs; cases hs
      | true =>
        rw [hc] at hs
        have hc := Nat.eq_of_beq_eq_true hc
        subst hc
        simp only [cond_true] at hs
        split at hs
        · rename_i v hv
          have := mGo_inv hs
          subst this
          exact va_get (D := G) hx hb hts (mCl_in hf.2.2) hown hK hI.1 k (mWs_get hh) (mCl_at hf.2.2) a2 hf.2.1 (hts _ (mGw_in hf.1 rfl)) (fun _ h9 => h9) (v := mTv (mAd z sa) v) (by rw [List.getElem?_map, hv]; rfl) hdg (K _ _ _ rfl ls hl)
        · cases hs
    · cases hs
  · cases hs
theorem sim_putfield (C0 : mCx p s m args c cc nL own G cy z sa ro) (hI : mInv G cy z sa s h H locs) (hl : mLv (mAd z sa) lo ls) {w : Nat} {x : mR} (hdg : decode cc pc = .ok (.putfield w, 3)) (hf : mFd own w a1 a2) (hk : mFk (mT a1 a2).2.2.1 = some a3) (hfin : (mT a1 a2).2.2.2 = true → meth.name = "<init>" ∧ (mT a1 a2).1 = own)
    (hs : mStep2 ro rk (.putfield w, 3, a1, a2, a3, v32, v64, sw) pc lo st h = some x) (K : mKh p l e R s m args below meth c cells slots Q G cy z sa x) : W p l e R s m args below meth c H locs cells slots Q (F0 m pc ls (st.map (mTv (mAd z sa)))) := by
  obtain ⟨hx, hb, hml, hown, hts, hK, hro, hz⟩ := C0
  have hty := mCl_ty hf.2.2 a2 hf.2.1
  -- one store for all kinds
  have store : ∀ (k : Nat) (v : Value) (r : List Value) (fs : List Value), h[k]? = some (.inl (a1, fs)) → a2 < fs.length → x = .inl (pc + 3, lo, r, h.set k (.inl (a1, fs.set a2 v)), 0, 0) → narrow (mTy a1 a2) (mTv (mAd z sa) v) = mTv (mAd z sa) v → fits (mTy a1 a2) (mTv (mAd z sa) v) = true →
      W p l e R s m args below meth c H locs cells slots Q (F0 m pc ls (mTv (mAd z sa) v :: .ref (mAd z sa k) :: r.map (mTv (mAd z sa)))) := by
    intro k v r fs hh hlt hxe hn hfit
    have hset : (mWs (mAd z sa) cy h).set k (mAd z sa k, .inr (a1, (fs.map (mTv (mAd z sa))).set a2 (mTv (mAd z sa) v))) = mWs (mAd z sa) cy (h.set k (.inl (a1, fs.set a2 v))) := by
      rw [mWs_set]
      simp [mE, List.map_set]
    by_cases hF : (mT a1 a2).2.2.2 = true
    · obtain ⟨f1, f2⟩ := hfin hF
      refine va_putF (D := G) hx hb hts (mCl_in hf.2.2) (mTy a1) (mCl_ty hf.2.2) (mCl_nm hf.2.2) hown hK hI.1 hI.2.1 hI.2.2 k (mWs_get hh) (mCl_at hf.2.2) a2 hf.2.1 (hts _ (mGw_in hf.1 rfl)) (fun _ h9 => h9) hF f1 f2 hty hn hfit (by simpa using hlt) hdg (fun H1 locs1 hP hD hS => ?_)
      rw [hset] at hP hD
      exact K _ _ _ _ _ _ hxe H1 locs1 ls ⟨hP, hD, hS⟩ hl
    · refine va_put (D := G) hx hb hts (mCl_in hf.2.2) (mTy a1) (mCl_ty hf.2.2) (mCl_nm hf.2.2) hown hK hI.1 hI.2.1 hI.2.2 k (mWs_get hh) (mCl_at hf.2.2) a2 hf.2.1 (hts _ (mGw_in hf.1 rfl)) (fun _ h9 => h9) (by simpa using hF) hty hn hfit (by simpa using hlt) hdg (fun H1 locs1 hP hD hS => ?_)
      rw [hset] at hP hD
      exact K _ _ _ _ _ _ hxe H1 locs1 ls ⟨hP, hD, hS⟩ hl
  have hmk : ∀ t, mTy a1 a2 = t → mFk (mT a1 a2).2.2.1 = (match t with | .int => some 0 | .boolean => some 1 | .long => some 2 | .array _ => some 3 | .object _ => some 3 | _ => none) := by
    intro t ht
    unfold mFk
    rw [hty, ht]
    cases t <;> rfl
  simp only [mStep2] at hs
  split at hs
  · rename_i v k r
    split at hs
    · rename_i ci fs hh
      cases hc : (Nat.beq ci a1 && Nat.blt a2 fs.length) with
      | false => rw [hc] at hs; cases hs
      | true =>
        rw [hc] at hs
        rw [Bool.and_eq_true] at hc
        have hc1 := Nat.eq_of_beq_eq_true hc.1
        have hlt : a2 < fs.length := Nat.lt_of_lt_of_le (Nat.lt_succ_self _) (Nat.le_of_ble_eq_true hc.2)
        subst hc1
        simp only [cond_true] at hs
        split at hs
        · have hxe := mGo_inv hs
          have ht : mTy ci a2 = .int := by
            cases ht : mTy ci a2 <;> rw [hmk _ ht] at hk <;> first | rfl | (simp at hk; done)
          exact store k _ r fs hh hlt hxe (by rw [ht]; rfl) (by rw [ht]; rfl)
        · rename_i y
          split at hs
          · rename_i hy
            have hxe := mGo_inv hs
            have ht : mTy ci a2 = .boolean := by
              cases ht : mTy ci a2 <;> rw [hmk _ ht] at hk <;> first | rfl | (simp at hk; done)
            refine store k _ r fs hh hlt hxe ?_ ?_
            · rw [ht]
              rcases hy with rfl | rfl
              · exact (by decide : narrow FieldType.boolean (Value.int 0) = Value.int 0)
              · exact (by decide : narrow FieldType.boolean (Value.int 1) = Value.int 1)
            · rw [ht]
              rcases hy with rfl | rfl
              · exact (by decide : fits FieldType.boolean (Value.int 0) = true)
              · exact (by decide : fits FieldType.boolean (Value.int 1) = true)
          · cases hs
        · have hxe := mGo_inv hs
          have ht : mTy ci a2 = .long := by
            cases ht : mTy ci a2 <;> rw [hmk _ ht] at hk <;> first | rfl | (simp at hk; done)
          exact store k _ r fs hh hlt hxe (by rw [ht]; rfl) (by rw [ht]; rfl)
        · have hxe := mGo_inv hs
          refine store k _ r fs hh hlt hxe ?_ ?_
          · cases ht : mTy ci a2 <;> rw [hmk _ ht] at hk <;> first | rfl | (simp at hk; done)
          · cases ht : mTy ci a2 <;> rw [hmk _ ht] at hk <;> first | rfl | (simp at hk; done)
        · cases hs
    · cases hs
  · cases hs
end S2
end
section
/-! arrays, new cells, answers -/
theorem mNew_ok : ((List.range 13).all fun ci => (List.range (mNf ci)).all fun j => decide (defaultValue (mTy ci j) = (mNew ci).getD j .null) && (match (mNew ci).getD j .null with | .ref _ => false | _ => true)) = true := by decide +kernel
theorem mNew_len : ((List.range 13).all fun ci => Nat.beq (mNew ci).length (mNf ci)) = true := by decide +kernel
theorem mNew_fs {ad : Nat → Nat} {ci j : Nat} (h : ci < 13) (hj : j < mNf ci) : defaultValue (mTy ci j) = vp_V ((mNew ci).map (mTv ad)) j := by
  have h1 := List.all_eq_true.mp mNew_ok ci (List.mem_range.mpr h)
  have h2 := List.all_eq_true.mp h1 j (List.mem_range.mpr hj)
  rw [Bool.and_eq_true, decide_eq_true_eq] at h2
  have h3 := Nat.eq_of_beq_eq_true (List.all_eq_true.mp mNew_len ci (List.mem_range.mpr h))
  obtain ⟨h2, h4⟩ := h2
  rw [h2]
  unfold vp_V
  rw [List.getD_eq_getElem?_getD, List.getD_eq_getElem?_getD, List.getElem?_map]
  rw [List.getD_eq_getElem?_getD] at h4
  cases hg : (mNew ci)[j]? with
  | none => rfl
  | some v =>
    rw [hg] at h4
    cases v <;> first | rfl | (simp at h4; done)
theorem mGetD {α : Type} {l : List α} {i : Nat} {x d : α} (h : l[i]? = some x) : l.getD i d = x := by simp [List.getD_eq_getElem?_getD, h]
section S3
variable {p : Program} {l : Launch} {e : Env} {R : Room} {s : State} {m : MethodId} {args : Array Value} {below : List Frame} {meth : Method} {c : Code} {H : Heap} {locs : List Loc} {cells slots : Nat} {Q : State → Prop}
variable {cc : ByteArray} {nL : Nat} {own : String} {G : va_G} {cy : Nat → ClassId} {z : Nat} {sa : Nat → Nat} {ro : List (List Int32)} {pc len a1 a2 a3 : Nat} {v32 : Int32} {v64 : Int64} {sw : List (Int32 × Nat)} {lo : mO} {st : List Value} {h : mH} {ls : Array Slot} {rk : Nat}
theorem sim_iaload (C0 : mCx p s m args c cc nL own G cy z sa ro) (hI : mInv G cy z sa s h H locs) (hl : mLv (mAd z sa) lo ls) {x : mR} (hdg : decode cc pc = .ok (.iaload, 1))
    (hs : mStep2 ro rk (.iaload, 1, a1, a2, a3, v32, v64, sw) pc lo st h = some x) (K : mKh p l e R s m args below meth c cells slots Q G cy z sa x) : W p l e R s m args below meth c H locs cells slots Q (F0 m pc ls (st.map (mTv (mAd z sa)))) := by
  obtain ⟨hx, hb, hml, hown, hts, hK, hro, hz⟩ := C0
  simp only [mStep2] at hs
  split at hs
  · rename_i i k r
    split at hs
    · rename_i l hrow
      split at hs
      · cases hs
      · rename_i h0
        split at hs
        · rename_i y hy
          have := mGo_inv hs
          subst this
          have hlt : i.toNatClampNeg < l.length := (List.getElem?_eq_some_iff.mp hy).1
          have KK := K _ _ _ _ _ _ rfl H locs ls hI hl
          unfold mRow at hrow
          cases hbk : Nat.blt k mBase with
          | true =>
            rw [hbk] at hrow
            simp only [cond_true] at hrow
            split at hrow
            · rename_i l2 hh
              cases hrow
              refine va_iald hx hb hK hI.1 k 0 (mWs_get hh) (rfl : (mTys cy)[0]? = some (cy 0, .int)) (mIdx h0 hlt) hdg ?_
              rw [mGetD hy]
              exact KK
            · cases hrow
          | false =>
            rw [hbk] at hrow
            simp only [cond_false] at hrow
            have hk : ¬ k < mBase := fun q => by rw [Nat.blt_eq.mpr q] at hbk; cases hbk
            have hT := hro.2 (k - mBase) l hrow
            rw [← show mAd z sa k = sa (k - mBase) from if_neg hk] at hT
            exact va_ti hx hb hT hI.2.2 (mIdx h0 hlt) (by show Value.int (l.getD i.toNatClampNeg 0) = .int y; rw [mGetD hy]) hdg KK
        · cases hs
    · cases hs
  · cases hs
theorem sim_arraylength (C0 : mCx p s m args c cc nL own G cy z sa ro) (hI : mInv G cy z sa s h H locs) (hl : mLv (mAd z sa) lo ls) {x : mR} (hdg : decode cc pc = .ok (.arraylength, 1))
    (hs : mStep2 ro rk (.arraylength, 1, a1, a2, a3, v32, v64, sw) pc lo st h = some x) (K : mKh p l e R s m args below meth c cells slots Q G cy z sa x) : W p l e R s m args below meth c H locs cells slots Q (F0 m pc ls (st.map (mTv (mAd z sa)))) := by
  obtain ⟨hx, hb, hml, hown, hts, hK, hro, hz⟩ := C0
  simp only [mStep2] at hs
  split at hs
  · rename_i k r
    split at hs
    · rename_i l hrow
      have := mGo_inv hs
      subst this
      have KK := K _ _ _ _ _ _ rfl H locs ls hI hl
      unfold mRow at hrow
      cases hbk : Nat.blt k mBase with
      | true =>
        rw [hbk] at hrow
        simp only [cond_true] at hrow
        split at hrow
        · rename_i l2 hh
          cases hrow
          exact va_alen hx hb hK hI.1 k 0 (mWs_get hh) (rfl : (mTys cy)[0]? = some (cy 0, .int)) rfl hdg KK
        · cases hrow
      | false =>
        rw [hbk] at hrow
        simp only [cond_false] at hrow
        have hk : ¬ k < mBase := fun q => by rw [Nat.blt_eq.mpr q] at hbk; cases hbk
        have hT := hro.2 (k - mBase) l hrow
        rw [← show mAd z sa k = sa (k - mBase) from if_neg hk] at hT
        exact va_tlen hx hb hT hI.2.2 rfl hdg KK
    · cases hs
  · cases hs
theorem sim_baload (C0 : mCx p s m args c cc nL own G cy z sa ro) (hI : mInv G cy z sa s h H locs) (hl : mLv (mAd z sa) lo ls) {x : mR} (hdg : decode cc pc = .ok (.baload, 1))
    (hs : mStep2 ro rk (.baload, 1, a1, a2, a3, v32, v64, sw) pc lo st h = some x) (K : mKh p l e R s m args below meth c cells slots Q G cy z sa x) : W p l e R s m args below meth c H locs cells slots Q (F0 m pc ls (st.map (mTv (mAd z sa)))) := by
  obtain ⟨hx, hb, hml, hown, hts, hK, hro, hz⟩ := C0
  simp only [mStep2] at hs
  split at hs
  · rename_i i k r
    split at hs
    · rename_i t l hh
      cases ht : (Nat.beq t 1 || Nat.beq t 2) with
      | false => rw [ht] at hs; cases hs
      | true =>
        rw [ht] at hs
        simp only [cond_true] at hs
        split at hs
        · cases hs
        · rename_i h0
          split at hs
          · rename_i y hy
            have := mGo_inv hs
            subst this
            have hlt : i.toNatClampNeg < l.length := (List.getElem?_eq_some_iff.mp hy).1
            have KK := K _ _ _ _ _ _ rfl H locs ls hI hl
            rw [Bool.or_eq_true] at ht
            rcases ht with ht | ht
            · have ht := Nat.eq_of_beq_eq_true ht
              subst ht
              refine va_bald hx hb hK hI.1 k 1 (mWs_get hh) (rfl : (mTys cy)[1]? = some (cy 1, .byte)) (mIdx h0 hlt) hdg ?_
              rw [mGetD hy]
              exact KK
            · have ht := Nat.eq_of_beq_eq_true ht
              subst ht
              refine va_zald hx hb hK hI.1 k 2 (mWs_get hh) (rfl : (mTys cy)[2]? = some (cy 2, .boolean)) (mIdx h0 hlt) hdg ?_
              rw [mGetD hy]
              exact KK
          · cases hs
    · cases hs
  · cases hs
theorem sim_laload (C0 : mCx p s m args c cc nL own G cy z sa ro) (hI : mInv G cy z sa s h H locs) (hl : mLv (mAd z sa) lo ls) {x : mR} (hdg : decode cc pc = .ok (.laload, 1))
    (hs : mStep2 ro rk (.laload, 1, a1, a2, a3, v32, v64, sw) pc lo st h = some x) (K : mKh p l e R s m args below meth c cells slots Q G cy z sa x) : W p l e R s m args below meth c H locs cells slots Q (F0 m pc ls (st.map (mTv (mAd z sa)))) := by
  obtain ⟨hx, hb, hml, hown, hts, hK, hro, hz⟩ := C0
  simp only [mStep2] at hs
  split at hs
  · rename_i i k r
    split at hs
    · rename_i l hh
      split at hs
      · cases hs
      · rename_i h0
        split at hs
        · rename_i y hy
          have := mGo_inv hs
          subst this
          have hlt : i.toNatClampNeg < l.length := (List.getElem?_eq_some_iff.mp hy).1
          refine va_lald hx hb hK hI.1 k 3 (mWs_get hh) (rfl : (mTys cy)[3]? = some (cy 3, .long)) (mIdx h0 hlt) hdg ?_
          rw [mGetD hy]
          exact K _ _ _ _ _ _ rfl H locs ls hI hl
        · cases hs
    · cases hs
  · cases hs
theorem sim_aaload (C0 : mCx p s m args c cc nL own G cy z sa ro) (hI : mInv G cy z sa s h H locs) (hl : mLv (mAd z sa) lo ls) {x : mR} (hdg : decode cc pc = .ok (.aaload, 1))
    (hs : mStep2 ro rk (.aaload, 1, a1, a2, a3, v32, v64, sw) pc lo st h = some x) (K : mKh p l e R s m args below meth c cells slots Q G cy z sa x) : W p l e R s m args below meth c H locs cells slots Q (F0 m pc ls (st.map (mTv (mAd z sa)))) := by
  obtain ⟨hx, hb, hml, hown, hts, hK, hro, hz⟩ := C0
  simp only [mStep2] at hs
  split at hs
  · rename_i i k r
    split at hs
    · rename_i l hh
      split at hs
      · cases hs
      · rename_i h0
        split at hs
        · rename_i y hy
          have := mGo_inv hs
          subst this
          have hlt : i.toNatClampNeg < l.length := (List.getElem?_eq_some_iff.mp hy).1
          have ha := mWs_get (ad := mAd z sa) (cy := cy) hh
          refine W.aald (v := va_rf ((l.getD i.toNatClampNeg none).map (mAd z sa))) (ty := .array .int) hx hb (hI.1 k _ ha) ((hK.2 4 _ rfl).1 l.length (fun j => va_rf ((l.getD j none).map (mAd z sa)))) rfl (fun q => by cases q) (by show ¬ (i < 0 ∨ (arrV _ _ _).slots.size ≤ _); rw [arrV_size]; exact mIdx h0 hlt) (by show (arrV _ _ _).slots[_]? = _; rw [arrV_read _ _ hlt]) rfl rfl hdg ?_
          rw [mGetD hy]
          exact K _ _ _ _ _ _ rfl H locs ls hI hl
        · cases hs
    · cases hs
  · cases hs
theorem sim_iastore (C0 : mCx p s m args c cc nL own G cy z sa ro) (hI : mInv G cy z sa s h H locs) (hl : mLv (mAd z sa) lo ls) {x : mR} (hdg : decode cc pc = .ok (.iastore, 1))
    (hs : mStep2 ro rk (.iastore, 1, a1, a2, a3, v32, v64, sw) pc lo st h = some x) (K : mKh p l e R s m args below meth c cells slots Q G cy z sa x) : W p l e R s m args below meth c H locs cells slots Q (F0 m pc ls (st.map (mTv (mAd z sa)))) := by
  obtain ⟨hx, hb, hml, hown, hts, hK, hro, hz⟩ := C0
  simp only [mStep2] at hs
  split at hs
  · rename_i y i k r
    split at hs
    · rename_i l hh
      split at hs
      · cases hs
      · rename_i h0
        have := mGo_inv hs
        subst this
        have hlt : i.toNatClampNeg < l.length := Nat.not_le.mp fun q => h0 (Or.inr q)
        refine va_iast hx hb hK hI.1 hI.2.1 hI.2.2 k 0 (mWs_get hh) (rfl : (mTys cy)[0]? = some (cy 0, .int)) h0 hdg (fun H1 locs1 hP hD hS => ?_)
        have e : (mWs (mAd z sa) cy h).set k (mAd z sa k, .inl (cy 0, l.length, .inl (upd (fun j => l.getD j 0) i.toNatClampNeg y))) = mWs (mAd z sa) cy (h.set k (.inr (0, .inl (l.set i.toNatClampNeg y)))) := by
          rw [mWs_set]
          simp only [mE, List.length_set]
          rw [mSet_fun l 0 _ y hlt]
          rfl
        rw [e] at hP hD
        exact K _ _ _ _ _ _ rfl H1 locs1 ls ⟨hP, hD, hS⟩ hl
    · cases hs
  · cases hs
theorem sim_lastore (C0 : mCx p s m args c cc nL own G cy z sa ro) (hI : mInv G cy z sa s h H locs) (hl : mLv (mAd z sa) lo ls) {x : mR} (hdg : decode cc pc = .ok (.lastore, 1))
    (hs : mStep2 ro rk (.lastore, 1, a1, a2, a3, v32, v64, sw) pc lo st h = some x) (K : mKh p l e R s m args below meth c cells slots Q G cy z sa x) : W p l e R s m args below meth c H locs cells slots Q (F0 m pc ls (st.map (mTv (mAd z sa)))) := by
  obtain ⟨hx, hb, hml, hown, hts, hK, hro, hz⟩ := C0
  simp only [mStep2] at hs
  split at hs
  · rename_i y i k r
    split at hs
    · rename_i l hh
      split at hs
      · cases hs
      · rename_i h0
        have := mGo_inv hs
        subst this
        have hlt : i.toNatClampNeg < l.length := Nat.not_le.mp fun q => h0 (Or.inr q)
        refine va_last hx hb hK hI.1 hI.2.1 hI.2.2 k 3 (mWs_get hh) (rfl : (mTys cy)[3]? = some (cy 3, .long)) h0 hdg (fun H1 locs1 hP hD hS => ?_)
        have e : (mWs (mAd z sa) cy h).set k (mAd z sa k, .inl (cy 3, l.length, .inr (.inl (vp_updL (fun j => l.getD j 0) i.toNatClampNeg y)))) = mWs (mAd z sa) cy (h.set k (.inr (3, .inr (.inl (l.set i.toNatClampNeg y))))) := by
          rw [mWs_set]
          simp only [mE, List.length_set]
          rw [mSet_fun l 0 _ y hlt]
          rfl
        rw [e] at hP hD
        exact K _ _ _ _ _ _ rfl H1 locs1 ls ⟨hP, hD, hS⟩ hl
    · cases hs
  · cases hs
theorem sim_bastore (C0 : mCx p s m args c cc nL own G cy z sa ro) (hI : mInv G cy z sa s h H locs) (hl : mLv (mAd z sa) lo ls) {x : mR} (hdg : decode cc pc = .ok (.bastore, 1))
    (hs : mStep2 ro rk (.bastore, 1, a1, a2, a3, v32, v64, sw) pc lo st h = some x) (K : mKh p l e R s m args below meth c cells slots Q G cy z sa x) : W p l e R s m args below meth c H locs cells slots Q (F0 m pc ls (st.map (mTv (mAd z sa)))) := by
  obtain ⟨hx, hb, hml, hown, hts, hK, hro, hz⟩ := C0
  simp only [mStep2] at hs
  split at hs
  · rename_i y i k r
    split at hs
    · rename_i l hh
      split at hs
      · cases hs
      · rename_i h0
        have := mGo_inv hs
        subst this
        have hlt : i.toNatClampNeg < l.length := Nat.not_le.mp fun q => h0 (Or.inr q)
        refine va_bast hx hb hK hI.1 hI.2.1 hI.2.2 k 1 (mWs_get hh) (rfl : (mTys cy)[1]? = some (cy 1, .byte)) h0 hdg (fun H1 locs1 hP hD hS => ?_)
        have e : (mWs (mAd z sa) cy h).set k (mAd z sa k, .inl (cy 1, l.length, .inl (upd (fun j => l.getD j 0) i.toNatClampNeg (vp_nar .byte y)))) = mWs (mAd z sa) cy (h.set k (.inr (1, .inl (l.set i.toNatClampNeg y.toInt8.toInt32)))) := by
          rw [mWs_set]
          simp only [mE, List.length_set]
          rw [mSet_fun l 0 _ y.toInt8.toInt32 hlt]
          rfl
        rw [e] at hP hD
        exact K _ _ _ _ _ _ rfl H1 locs1 ls ⟨hP, hD, hS⟩ hl
    · rename_i l hh
      split at hs
      · cases hs
      · rename_i h0
        have := mGo_inv hs
        subst this
        have h1 : ¬ (i < 0 ∨ l.length ≤ i.toNatClampNeg) := fun q => h0 (Or.inl q)
        have hy : y = 0 ∨ y = 1 := Decidable.not_not.mp fun q => h0 (Or.inr q)
        have hlt : i.toNatClampNeg < l.length := Nat.not_le.mp fun q => h1 (Or.inr q)
        have hn : vp_nar .boolean y = y := by rcases hy with rfl | rfl <;> decide
        refine va_zast hx hb hK hI.1 hI.2.1 hI.2.2 k 2 (mWs_get hh) (rfl : (mTys cy)[2]? = some (cy 2, .boolean)) h1 hdg (fun H1 locs1 hP hD hS => ?_)
        have e : (mWs (mAd z sa) cy h).set k (mAd z sa k, .inl (cy 2, l.length, .inl (upd (fun j => l.getD j 0) i.toNatClampNeg (vp_nar .boolean y)))) = mWs (mAd z sa) cy (h.set k (.inr (2, .inl (l.set i.toNatClampNeg y)))) := by
          rw [mWs_set, hn]
          simp only [mE, List.length_set]
          rw [mSet_fun l 0 _ y hlt]
          rfl
        rw [e] at hP hD
        exact K _ _ _ _ _ _ rfl H1 locs1 ls ⟨hP, hD, hS⟩ hl
    · cases hs
  · cases hs
theorem sim_new (C0 : mCx p s m args c cc nL own G cy z sa ro) (hI : mInv G cy z sa s h H locs) (hl : mLv (mAd z sa) lo ls) {w : Nat} {x : mR} (hdg : decode cc pc = .ok (.new w, 3)) (ha : Jvm.Cond.classLink own w (mCn a1) ∈ lw_tbl ∧ Jvm.Cond.instantiable (mCn a1) a2 ∈ lw_tbl ∧ Jvm.Cond.initialized (mCn a1) ∈ lw_tbl) (h13 : a1 < 13) (hN : a2 = mNf a1) (hsz : H.size = z + h.length) (hlen : h.length < mBase) (hroom : cells + 1 ≤ R.cells ∧ slots + a2 ≤ R.slots)
    (hs : mStep2 ro rk (.new w, 3, a1, a2, a3, v32, v64, sw) pc lo st h = some x) (K : mKh p l e R s m args below meth c cells slots Q G cy z sa x) : W p l e R s m args below meth c H locs cells slots Q (F0 m pc ls (st.map (mTv (mAd z sa)))) := by
  obtain ⟨hx, hb, hml, hown, hts, hK, hro, hz⟩ := C0
  simp only [mStep2] at hs
  have := (Option.some.inj hs).symm
  subst this
  have hKn := hK.1 a1 _ (mCl_at h13)
  refine W.newcK hx hb hown (hts _ (mGw_in ha.1 rfl)) (hts _ (mGw_in ha.2.1 rfl)) (hts _ (mGw_in ha.2.2 rfl)) rfl hdg hroom.1 hroom.2 hKn.2.1 rfl fun H1 kC hkC e1 z1 o1 => ?_
  have hk : ∀ (k : Nat) (x : Nat × va_E), (mWs (mAd z sa) cy h)[k]? = some x → H1[x.1]? = H[x.1]? := fun k x hx => o1 x.1 ((hI.1 k x hx).lt)
  have ead : mAd z sa h.length = H.size := by rw [mAd_lo hlen, hsz]
  have hP1 : va_P G vwCl (mWs (mAd z sa) cy h ++ [(mAd z sa h.length, mE (mAd z sa) cy (.inl (a1, mNew a1)))]) H1 := (hI.1.kept hk).app (fun k x hx => by
    have hz1 : k < 1 := (List.getElem?_eq_some_iff.mp hx).1
    rw [show k = 0 by omega] at hx
    cases hx
    rw [ead]
    exact ⟨_, mCl_at h13, (u_born (mTy a1) hts (mCl_in h13) hKn hkC e1 (mCl_ty h13)).to (fun j hj => mNew_fs h13 hj)⟩)
  have hD1 : va_D (mA z) (mWs (mAd z sa) cy h ++ [(mAd z sa h.length, mE (mAd z sa) cy (.inl (a1, mNew a1)))]) := hI.2.1.push hI.1 ead (by show z ≤ _; rw [ead]; omega)
  rw [← mWs_app] at hP1 hD1
  have KK := K _ _ _ _ _ _ rfl H1 locs ls ⟨hP1, hD1, ⟨Nat.le_trans hI.2.2.1 (by omega), fun x h1 h2 => (o1 x (Nat.lt_of_lt_of_le h1 hI.2.2.1)).trans (hI.2.2.2.1 x h1 h2), hI.2.2.2.2⟩⟩ hl
  rw [List.map_cons, show mTv (mAd z sa) (.ref h.length) = .ref H.size from by rw [← ead]; rfl] at KK
  exact KK
theorem sim_newarray (C0 : mCx p s m args c cc nL own G cy z sa ro) (hI : mInv G cy z sa s h H locs) (hl : mLv (mAd z sa) lo ls) {t : ArrayType} {x : mR} (hdg : decode cc pc = .ok (.newarray t, 2)) (hk : mAk t = a1) (hk3 : a1 ≤ 3) (hsz : H.size = z + h.length) (hlen : h.length < mBase) (hroom : ∀ N : mN, x = .inl N → cells + 1 ≤ R.cells ∧ slots + N.2.2.2.2.2 ≤ R.slots)
    (hs : mStep2 ro rk (.newarray t, 2, a1, a2, a3, v32, v64, sw) pc lo st h = some x) (K : mKh p l e R s m args below meth c cells slots Q G cy z sa x) : W p l e R s m args below meth c H locs cells slots Q (F0 m pc ls (st.map (mTv (mAd z sa)))) := by
  obtain ⟨hx, hb, hml, hown, hts, hK, hro, hz⟩ := C0
  simp only [mStep2] at hs
  split at hs
  · rename_i n r
    split at hs
    · cases hs
    · rename_i h0
      have := (Option.some.inj hs).symm
      subst this
      have hn0 : ¬ n < 0 := fun q => h0 (Or.inl q)
      have hn1 : n.toNatClampNeg ≤ 4096 := Nat.not_lt.mp fun q => h0 (Or.inr q)
      obtain ⟨hroom1, hroom2⟩ := hroom _ rfl
      have hwd : Jvm.Cond.arrayClass (newarray.typeOf t) ∈ mGw := by
        cases t <;> first | exact mGw_in mW_ai rfl | exact mGw_in mW_ab rfl | exact mGw_in mW_az rfl | exact mGw_in mW_al rfl | (exfalso; revert hk3; rw [← hk]; decide)
      have hcb : n.toNatClampNeg * componentBytes (newarray.typeOf t) ≤ 536870912 := by
        have : componentBytes (newarray.typeOf t) ≤ 8 := by cases t <;> decide
        exact Nat.le_trans (Nat.mul_le_mul hn1 this) (by decide)
      refine va_newaK hx hb (hts _ hwd) rfl hdg rfl hn0 rfl hcb hroom1 hroom2 rfl fun H1 cA e1 z1 o1 hAr hNm => ?_
      have hk' : ∀ (k : Nat) (x : Nat × va_E), (mWs (mAd z sa) cy h)[k]? = some x → H1[x.1]? = H[x.1]? := fun k x hx => o1 x.1 ((hI.1 k x hx).lt)
      have ead : mAd z sa h.length = H.size := by rw [mAd_lo hlen, hsz]
      have hcell : vp_cell cA (n.toNatClampNeg, (match newarray.typeOf t with | .long => .inr (.inl fun _ => 0) | _ => .inl fun _ => 0)) = arrV cA n.toNatClampNeg (fun _ => defaultValue (newarray.typeOf t)) := by
        cases t <;> first | rfl | (exfalso; revert hk3; rw [← hk]; decide)
      have hcA : cA = cy a1 := by
        have q := (hK.2 a1 (cy a1, newarray.typeOf t) (by rw [← hk]; cases t <;> first | rfl | (exfalso; revert hk3; rw [← hk]; decide))).2
        have q2 : s.vm.findClass ("[" ++ (newarray.typeOf t).toString) = some (cy a1) := by
          revert q
          cases t <;> exact fun q => q
        exact Option.some.inj (hNm.symm.trans q2)
      subst hcA
      have hE : mE (mAd z sa) cy (mArr a1 n.toNatClampNeg) = .inl (cy a1, n.toNatClampNeg, (match newarray.typeOf t with | .long => .inr (.inl fun _ => 0) | _ => .inl fun _ => 0)) := by
        have f0 : ∀ j : Nat, (List.replicate n.toNatClampNeg (0 : Int32)).getD j 0 = 0 := fun j => by
          rw [List.getD_eq_getElem?_getD, List.getElem?_replicate]
          split <;> rfl
        have f1 : ∀ j : Nat, (List.replicate n.toNatClampNeg (0 : Int64)).getD j 0 = 0 := fun j => by
          rw [List.getD_eq_getElem?_getD, List.getElem?_replicate]
          split <;> rfl
        subst hk
        cases t <;> first | (simp only [mAk, mArr, newarray.typeOf, mE, List.length_replicate]; first | (simp only [f0, f1, Nat.beq, cond_true, cond_false, List.length_replicate]; done) | (simp [f0, f1, Nat.beq, mE]; done)) | (exfalso; revert hk3; decide)
      have hP1 : va_P G vwCl (mWs (mAd z sa) cy h ++ [(mAd z sa h.length, mE (mAd z sa) cy (mArr a1 n.toNatClampNeg))]) H1 := (hI.1.kept hk').app (fun k x hx => by
        have hz1 : k < 1 := (List.getElem?_eq_some_iff.mp hx).1
        rw [show k = 0 by omega] at hx
        cases hx
        rw [ead, hE]
        show H1[H.size]? = some (vp_cell _ _)
        rw [hcell]
        exact e1)
      have hD1 : va_D (mA z) (mWs (mAd z sa) cy h ++ [(mAd z sa h.length, mE (mAd z sa) cy (mArr a1 n.toNatClampNeg))]) := by
        refine hI.2.1.push hI.1 ead (by show z ≤ _; rw [ead]; omega)
      rw [← mWs_app] at hP1 hD1
      have KK := K _ _ _ _ _ _ rfl H1 locs ls ⟨hP1, hD1, ⟨Nat.le_trans hI.2.2.1 (by omega), fun x h1 h2 => (o1 x (Nat.lt_of_lt_of_le h1 hI.2.2.1)).trans (hI.2.2.2.1 x h1 h2), hI.2.2.2.2⟩⟩ hl
      rw [List.map_cons, show mTv (mAd z sa) (.ref h.length) = .ref H.size from by rw [← ead]; rfl] at KK
      exact KK
  · cases hs
end S3
end
section
/-! new int[n][m] -/
def mAo (U : State) : Prop := (Jvm.Cond.arrayOver (.array .int)).before #[] U = true
theorem mAo.of {A : Array Value} {U : State} (h : (Jvm.Cond.arrayOver (.array .int)).before A U = true) : mAo U := h
theorem mAo.use {A : Array Value} {U : State} (h : mAo U) : (Jvm.Cond.arrayOver (.array .int)).before A U = true := h
theorem mAo_gen (fc fc' : Option Nat) (fi fi' : Nat → Option Nat) (g g' : Nat → Option Bool) (h1 : fc' = fc) (h2 : ∀ x, fi' x = fi x) (h3 : ∀ c, g' c = g c) : ((fc'.bind fun comp => (fi' comp).bind fun c => g' c) == some true) = ((fc.bind fun comp => (fi comp).bind fun c => g c) == some true) := by
  subst h1
  rw [show fi' = fi from funext h2, show g' = g from funext h3]
theorem mAo.moved {u U : State} (hvm : u.vm.Alike U.vm) (h : mAo u) : mAo U := by
  unfold mAo Jvm.Cond.before Jvm.Cond.holds at h ⊢
  simp only [Jvm.Cond.value] at h ⊢
  have hf : ∀ n, U.vm.findClass n = u.vm.findClass n := fun n => by rw [hvm.findClass]
  have hb : U.vm.bare = u.vm.bare := by first | exact hvm.bare_eq | exact hvm.bare_eq.symm
  refine (mAo_gen _ _ _ _ _ _ (hf _) (fun x => ?_) (fun c => ?_)).trans h
  · exact (va_idx_bare U.vm x).symm.trans ((congrArg (fun (b : Vm) => b.classes.findIdx? fun (y : Class) => match y.kind with | .array component _ => component == x | _ => false) hb).trans (va_idx_bare u.vm x))
  · cases hk : u.vm.classes[c]? with
    | none =>
      cases hk2 : U.vm.classes[c]? with
      | none => rfl
      | some k2 =>
        obtain ⟨k', hk', -⟩ := hvm.symm.2.2 _ _ hk2
        rw [hk] at hk'
        cases hk'
    | some k =>
      obtain ⟨k', hk', he⟩ := hvm.2.2 _ _ hk
      rw [hk']
      simp only [Option.map_some]
      have hkind : k'.kind = k.kind := by rw [he]
      rw [hkind, hf]
theorem mOut (c : ClassId) (N h0 : Nat) : ∀ i : Nat, Jvm.Free.Multi.outerC c N h0 i = arrV c N (fun j => va_rf (if j < i then some (h0 + 1 + j) else none))
  | 0 => by
    show ({ cls := c, slots := Array.replicate N .null, vm := .none } : Cell) = _
    rw [arrV_new]
    refine congrArg (arrV c N) (funext fun j => ?_)
    simp [va_rf]
  | i + 1 => by
    show (Jvm.Free.Multi.outerC c N h0 i).setSlot i (.ref (h0 + 1 + i)) = _
    rw [mOut c N h0 i, arrV_store]
    refine congrArg (arrV c N) (funext fun j => ?_)
    by_cases e : j = i
    · subst e
      simp [updV, va_rf]
    · by_cases h : j < i
      · simp [updV, e, h, Nat.lt_succ_of_lt h]
      · simp [updV, e, h, show ¬ j < i + 1 by omega]
theorem mWs_apps (ad : Nat → Nat) (cy : Nat → ClassId) : ∀ (r h : mH), mWs ad cy (h ++ r) = mWs ad cy h ++ r.mapIdx (fun k c => (ad (h.length + k), mE ad cy c)) := by
  intro r h
  simp [mWs, List.mapIdx_append, Nat.add_comm]
section S5
variable {p : Program} {l : Launch} {e : Env} {R : Room} {s : State} {m : MethodId} {args : Array Value} {below : List Frame} {meth : Method} {c : Code} {H : Heap} {locs : List Loc} {cells slots : Nat} {Q : State → Prop}
variable {cc : ByteArray} {nL : Nat} {own : String} {G : va_G} {cy : Nat → ClassId} {z : Nat} {sa : Nat → Nat} {ro : List (List Int32)} {pc len a1 a2 a3 : Nat} {v32 : Int32} {v64 : Int64} {sw : List (Int32 × Nat)} {lo : mO} {st : List Value} {h : mH} {ls : Array Slot} {rk : Nat}
theorem sim_mna (C0 : mCx p s m args c cc nL own G cy z sa ro) (hI : mInv G cy z sa s h H locs) (hl : mLv (mAd z sa) lo ls) {w : Nat} {x : mR} (hdg : decode cc pc = .ok (.multianewarray w 2, 4)) (ha : Jvm.Cond.classLink own w "[[I" ∈ lw_tbl) (hAo : mAo s) (hsz : H.size = z + h.length)
    (hlen : ∀ N : mN, x = .inl N → h.length + N.2.2.2.2.1 ≤ mBase) (hroom : ∀ N : mN, x = .inl N → cells + N.2.2.2.2.1 ≤ R.cells ∧ slots + N.2.2.2.2.2 ≤ R.slots)
    (hs : mStep2 ro rk (.multianewarray w 2, 4, a1, a2, a3, v32, v64, sw) pc lo st h = some x) (K : mKh p l e R s m args below meth c cells slots Q G cy z sa x) : W p l e R s m args below meth c H locs cells slots Q (F0 m pc ls (st.map (mTv (mAd z sa)))) := by
  obtain ⟨hx, hb, hml, hown, hts, hK, hro, hz⟩ := C0
  simp only [mStep2] at hs
  split at hs
  · rename_i k n r
    split at hs
    · cases hs
    · rename_i h0
      have := (Option.some.inj hs).symm
      subst this
      have hn0 : ¬ n < 0 := fun q => h0 (Or.inl (Or.inl q))
      have hn1 : n.toNatClampNeg ≤ 4096 := Nat.not_lt.mp fun q => h0 (Or.inl (Or.inr q))
      have hk0 : ¬ k < 0 := fun q => h0 (Or.inr (Or.inl q))
      have hk1 : k.toNatClampNeg ≤ 4096 := Nat.not_lt.mp fun q => h0 (Or.inr (Or.inr q))
      obtain ⟨hroom1, hroom2⟩ := hroom _ rfl
      have hlen := hlen _ rfl
      simp only at hroom1 hroom2 hlen
      intro T hT Xs
      obtain ⟨vm₁, cA, comp, -, fA, fC, hO, -, X', step⟩ := Xs.multianewarray2F hx hown (hts _ (mGw_in ha rfl)) (mAo.use hAo) (hts _ (mGw_in mW_ai rfl)) (ty := .int) (g := F0 m pc ls (.int k :: .int n :: r.map (mTv (mAd z sa)))) rfl (by rw [hb]; exact hdg) rfl hn0 hk0 (by omega) (by show k.toNatClampNeg * 4 ≤ _; omega) (by omega) (by decide) (by decide) (by omega) (by omega)
      have hcA : cA = cy 4 := by
        have q2 : s.vm.findClass ("[" ++ (FieldType.array .int).toString) = some (cy 4) := (hK.2 4 (cy 4, .array .int) rfl).2
        exact Option.some.inj (fA.symm.trans q2)
      have hcC : comp = cy 0 := by
        have q2 : s.vm.findClass ("[" ++ FieldType.int.toString) = some (cy 0) := (hK.2 0 (cy 0, .int) rfl).2
        have q3 : (FieldType.array FieldType.int).toString = "[" ++ FieldType.int.toString := by decide +kernel
        rw [q3] at fC
        exact Option.some.inj (fC.symm.trans q2)
      subst hcA
      subst hcC
      generalize hF : Jvm.Free.Multi.fill (T.setVm vm₁) (cy 4) (cy 0) n.toNatClampNeg k.toNatClampNeg (defaultValue .int) n.toNatClampNeg = F at X' step
      have hTh : (T.setVm vm₁).heap = H := hT
      obtain ⟨f1, f2, -, -⟩ := Jvm.Free.Multi.fill_facts (T.setVm vm₁) (cy 4) (cy 0) n.toNatClampNeg k.toNatClampNeg (defaultValue .int) n.toNatClampNeg
      rw [hF, hTh] at f1 f2
      have hold : ∀ x : Nat, x < H.size → F.heap[x]? = H[x]? := fun x hx => by
        have := Jvm.Free.Multi.fill_old (T.setVm vm₁) (cy 4) (cy 0) n.toNatClampNeg k.toNatClampNeg (defaultValue .int) (a := x) (by rw [hTh]; exact hx) n.toNatClampNeg
        rw [hF, hTh] at this
        exact this
      have hrow : ∀ j : Nat, j < n.toNatClampNeg → F.heap[H.size + 1 + j]? = some (vp_cell (cy 0) (k.toNatClampNeg, .inl fun _ => 0)) := fun j hj => by
        have := Jvm.Free.Multi.fill_inner (T.setVm vm₁) (cy 4) (cy 0) n.toNatClampNeg k.toNatClampNeg (defaultValue .int) n.toNatClampNeg j hj
        rw [hF, hTh] at this
        rw [this, vp_cell_i, ← arrV_new]
        rfl
      rw [mOut] at f2
      have ead : ∀ j : Nat, j ≤ n.toNatClampNeg → mAd z sa (h.length + j) = H.size + j := fun j hj => by rw [mAd_lo (by omega), hsz]; omega
      have hh2 : ∀ (j : Nat) (q : Nat × va_E), ((.inr (4, .inr (.inr ((List.range n.toNatClampNeg).map fun i => some (h.length + 1 + i)))) :: List.replicate n.toNatClampNeg (mArr 0 k.toNatClampNeg) : mH).mapIdx (fun k c => (mAd z sa (h.length + k), mE (mAd z sa) cy c)))[j]? = some q → j ≤ n.toNatClampNeg ∧ q.1 = H.size + j ∧ va_at G vwCl q F.heap := by
        intro j q hq
        rw [List.getElem?_mapIdx] at hq
        cases j with
        | zero =>
          simp only [List.getElem?_cons_zero, Option.map_some, Option.some.injEq] at hq
          subst hq
          refine ⟨Nat.zero_le _, ead 0 (Nat.zero_le _), ?_⟩
          show F.heap[mAd z sa (h.length + 0)]? = some (vp_cell (cy 4) (_, .inr (.inr (.inr (.inr _)))))
          rw [ead 0 (Nat.zero_le _), Nat.add_zero, f2, vp_cell_q]
          simp only [List.length_map, List.length_range]
          refine congrArg some (congrArg (arrV (cy 4) n.toNatClampNeg) (funext fun j => ?_))
          rw [List.getD_eq_getElem?_getD, List.getElem?_map]
          by_cases hj : j < n.toNatClampNeg
          · rw [if_pos hj, List.getElem?_range hj]
            simp only [Option.map_some, Option.getD_some]
            rw [show h.length + 1 + j = h.length + (1 + j) by omega, ead (1 + j) (by omega)]
            rw [show H.size + 1 + j = H.size + (1 + j) by omega]
          · rw [if_neg hj, List.getElem?_eq_none (by rw [List.length_range]; omega)]
            rfl
        | succ j =>
          simp only [List.getElem?_cons_succ, List.getElem?_replicate] at hq
          split at hq
          · rename_i hj
            simp only [Option.map_some, Option.some.injEq] at hq
            subst hq
            refine ⟨hj, ead (j + 1) hj, ?_⟩
            show F.heap[mAd z sa (h.length + (j + 1))]? = some (vp_cell (cy 0) (_, .inl _))
            rw [ead (j + 1) hj, show H.size + (j + 1) = H.size + 1 + j by omega, hrow j hj, vp_cell_i, vp_cell_i]
            simp only [List.length_replicate]
            refine congrArg some (congrArg (arrV (cy 0) k.toNatClampNeg) (funext fun i => ?_))
            rw [List.getD_eq_getElem?_getD, List.getElem?_replicate]
            split <;> rfl
          · simp at hq
      have hP1 : va_P G vwCl (mWs (mAd z sa) cy (h ++ (.inr (4, .inr (.inr ((List.range n.toNatClampNeg).map fun i => some (h.length + 1 + i)))) :: List.replicate n.toNatClampNeg (mArr 0 k.toNatClampNeg)))) F.heap := by
        rw [mWs_apps]
        exact (hI.1.kept (fun k9 x hx => hold x.1 ((hI.1 k9 x hx).lt))).app (fun j q hq => (hh2 j q hq).2.2)
      have hD1 : va_D (mA z) (mWs (mAd z sa) cy (h ++ (.inr (4, .inr (.inr ((List.range n.toNatClampNeg).map fun i => some (h.length + 1 + i)))) :: List.replicate n.toNatClampNeg (mArr 0 k.toNatClampNeg)))) := by
        rw [mWs_apps]
        have hlow : ∀ (i : Nat) (q : Nat × va_E), (mWs (mAd z sa) cy h)[i]? = some q → q.1 < H.size := fun i q hq => (hI.1 i q hq).lt
        refine ⟨fun i j x y hi hj hxy => ?_, fun i x hi => ?_⟩
        · by_cases h1 : i < (mWs (mAd z sa) cy h).length <;> by_cases h2 : j < (mWs (mAd z sa) cy h).length
          · rw [List.getElem?_append_left h1] at hi
            rw [List.getElem?_append_left h2] at hj
            exact hI.2.1.1 i j x y hi hj hxy
          · rw [List.getElem?_append_left h1] at hi
            rw [List.getElem?_append_right (by omega)] at hj
            have := hlow _ _ hi
            have := (hh2 _ _ hj).2.1
            omega
          · rw [List.getElem?_append_right (by omega)] at hi
            rw [List.getElem?_append_left h2] at hj
            have := hlow _ _ hj
            have := (hh2 _ _ hi).2.1
            omega
          · rw [List.getElem?_append_right (by omega)] at hi hj
            have := (hh2 _ _ hi).2.1
            have := (hh2 _ _ hj).2.1
            omega
        · by_cases h1 : i < (mWs (mAd z sa) cy h).length
          · rw [List.getElem?_append_left h1] at hi
            exact hI.2.1.2 i x hi
          · rw [List.getElem?_append_right (by omega)] at hi
            have := (hh2 _ _ hi).2.1
            show z ≤ x.1
            omega
      have hS1 : va_S (mA z) s.heap F.heap locs := ⟨Nat.le_trans hI.2.2.1 (by omega), fun x h1 h2 => (hold x (Nat.lt_of_lt_of_le h1 hI.2.2.1)).trans (hI.2.2.2.1 x h1 h2), hI.2.2.2.2⟩
      have KK := K _ _ _ _ _ _ rfl F.heap locs ls ⟨hP1, hD1, hS1⟩ hl
      rw [List.map_cons, show mTv (mAd z sa) (.ref h.length) = .ref H.size from by have := ead 0 (Nat.zero_le _); rw [Nat.add_zero, Nat.add_zero] at this; rw [← this]; rfl] at KK
      obtain ⟨t, b1, b2⟩ := KK F rfl (by
        rw [show cells + (1 + n.toNatClampNeg) = cells + 1 + n.toNatClampNeg by omega, show slots + (n.toNatClampNeg + n.toNatClampNeg * k.toNatClampNeg) = slots + n.toNatClampNeg + n.toNatClampNeg * k.toNatClampNeg by omega]
        exact X')
      refine ⟨t, step t ?_, b2⟩
      have e : T.heap.size = H.size := by rw [hT]
      rw [e]
      exact b1
  · cases hs
end S5
end
section
/-! answers, copies, calls -/
theorem mCpy_fun (f g : List Int32) (sp dp n : Nat) (h4 : sp + n ≤ f.length) (h5 : dp + n ≤ g.length) : (fun j => (g.take dp ++ ((f.drop sp).take n ++ g.drop (dp + n))).getD j 0) = va_cpy (fun j => f.getD j 0) (fun j => g.getD j 0) sp dp n := by
  funext j
  unfold va_cpy
  simp only [List.getD_eq_getElem?_getD]
  have l1 : (g.take dp).length = dp := by rw [List.length_take]; omega
  have l2 : ((f.drop sp).take n).length = n := by rw [List.length_take, List.length_drop]; omega
  by_cases h : dp ≤ j ∧ j < dp + n
  · rw [if_pos h, List.getElem?_append_right (by omega), l1, List.getElem?_append_left (by omega), List.getElem?_take_of_lt (by omega), List.getElem?_drop]
  · rw [if_neg h]
    by_cases h6 : j < dp
    · rw [List.getElem?_append_left (by omega), List.getElem?_take_of_lt h6]
    · rw [List.getElem?_append_right (by omega), l1, List.getElem?_append_right (by omega), l2, List.getElem?_drop]
      congr 2
      omega
theorem mCpy_len (f g : List Int32) (sp dp n : Nat) (h4 : sp + n ≤ f.length) (h5 : dp + n ≤ g.length) : (g.take dp ++ ((f.drop sp).take n ++ g.drop (dp + n))).length = g.length := by
  simp only [List.length_append, List.length_take, List.length_drop]
  omega
theorem mCat_eq (st : List Value) : (st.map fun v => v.category).sum = mCat st := by
  induction st with
  | nil => rfl
  | cons v r ih => rw [List.map_cons, List.sum_cons, ih]; rfl
theorem mCat_tv (ad : Nat → Nat) (st : List Value) : mCat (st.map (mTv ad)) = mCat st := by
  induction st with
  | nil => rfl
  | cons v r ih => rw [List.map_cons]; show (mTv ad v).category + _ = v.category + _; rw [mTv_cat, ih]
/-- the room of a method at a depth -/
def mRm (d nc ns : Nat) : Room := { frames := d + 1, cells := nc, slots := ns, locals := 32 * d + 200 }
/-- other words that stay -/
def mNw (U : State) : Prop := (∀ (a : String) (i : Nat) (x : MethodName) (b : String), Jvm.Cond.methodLinkNest a i x b ∈ lw_tbl → va_Nw (.methodLinkNest a i x b) U) ∧ mAo U
theorem mNw.warm {s U : State} (hW : s.WarmedH U.vm) (h : mNw s) : mNw U := ⟨fun a i x b hm => va_Nw.warmM hW (h.1 a i x b hm), h.2.moved hW.alike⟩
theorem mNw.same {u U : State} (e : u.vm = U.vm) (h : mNw u) : mNw U := ⟨fun a i x b hm => va_Nw.same rfl e (h.1 a i x b hm), h.2.moved (by rw [e]; exact Vm.Alike.refl U.vm)⟩
/-- a method's start: the cells h, and what stays -/
def mPc (G : va_G) (cy : Nat → ClassId) (z : Nat) (sa : Nat → Nat) (ro : List (List Int32)) (as : List Value) (h : mH) : Array Value → State → Prop :=
  va_Pc (as.map (mTv (mAd z sa))) (fun U => va_P G vwCl (mWs (mAd z sa) cy h) U.heap ∧ va_D (mA z) (mWs (mAd z sa) cy h) ∧ va_K G vwCl (mTys cy) U ∧ mRo z sa ro U U.heap ∧ U.heap.size = z + h.length ∧ mNw U)
def mQc (G : va_G) (cy : Nat → ClassId) (z : Nat) (sa : Nat → Nat) (v : Option Value) (h : mH) : Array Value → State → Outcome → State → Prop := fun _ st o t =>
  o = .returned (v.map (mTv (mAd z sa))) ∧ va_P G vwCl (mWs (mAd z sa) cy h) t.heap ∧ va_D (mA z) (mWs (mAd z sa) cy h) ∧ va_F (mA z) st t
def mMet (l : Launch) (G : va_G) (cy : Nat → ClassId) (z : Nat) (sa : Nat → Nat) (ro : List (List Int32)) (d y : Nat) (as : List Value) (h : mH) (v : Option Value) (h' : mH) (nc ns : Nat) : Prop :=
  Met l (mMeth y).1 (.code (mMeth y).1 (mMeth y).2.1 (mMeth y).2.2.1 (mMeth y).2.2.2.1 :: mGw) (mRm d nc ns) (mPc G cy z sa ro as h) (mQc G cy z sa v h') nc ns (mA z)
theorem mPc_blind {G : va_G} {cy : Nat → ClassId} {z : Nat} {sa : Nat → Nat} {ro : List (List Int32)} {as : List Value} {h : mH} : FrameBlind (mPc G cy z sa ro as h) := fun a U g mk q => by
  obtain ⟨q0, q1, q2, q3, q4, q5, q6⟩ := q
  exact ⟨q0, q1, q2, va_K.moved (u := U) (U := U.calling g mk a) (Vm.Alike.refl U.vm) q3, mRo.moved (u := U) (U := U.calling g mk a) (Vm.Alike.refl U.vm) q4, q5, mNw.same (u := U) (U := U.calling g mk a) rfl q6⟩
section S4
variable {p : Program} {l : Launch} {e : Env} {R : Room} {s : State} {m : MethodId} {args : Array Value} {below : List Frame} {meth : Method} {c : Code} {H : Heap} {locs : List Loc} {cells slots : Nat} {Q : State → Prop}
variable {cc : ByteArray} {nL : Nat} {own : String} {G : va_G} {cy : Nat → ClassId} {z : Nat} {sa : Nat → Nat} {ro : List (List Int32)} {pc len a1 a2 a3 : Nat} {v32 : Int32} {v64 : Int64} {sw : List (Int32 × Nat)} {lo : mO} {st : List Value} {h : mH} {ls : Array Slot} {rk : Nat}
theorem W.sized (k : H.size ≤ s.heap.size + cells → W p l e R s m args below meth c H locs cells slots Q (F0 m pc ls st)) : W p l e R s m args below meth c H locs cells slots Q (F0 m pc ls st) :=
  fun T hT X => k (by rw [← hT]; exact X.same.2.2.1) T hT X
theorem mSize (hI : mInv G cy z sa s h H locs) (hz : z ≤ s.heap.size) (hle : H.size ≤ s.heap.size + cells) (hsz : s.heap.size + cells = z + h.length) (hlen : h.length ≤ mBase) : H.size = z + h.length := by
  cases hn : h.length with
  | zero =>
    have := hI.2.2.1
    omega
  | succ n =>
    have hk : h[n]? = some (h[n]'(by omega)) := List.getElem?_eq_getElem (by omega)
    have hlt := (hI.1 n _ (mWs_get hk)).lt
    have : mAd z sa n = z + n := mAd_lo (by omega)
    simp only at hlt
    omega
/-- what a method leaves, for its caller -/
abbrev mEnd (below : List Frame) (args : Array Value) (s : State) (G : va_G) (cy : Nat → ClassId) (z : Nat) (sa : Nat → Nat) (v : Option Value) (h' : mH) (nc ns : Nat) : State → Prop := MQ below (mQc G cy z sa v h') args s nc ns (mA z)
theorem mEnd_q (hI : mInv G cy z sa s h H locs) {v : Option Value} {t : State} (ht : t.heap = H) : mQc G cy z sa v h args s (.returned (v.map (mTv (mAd z sa)))) t :=
  ⟨rfl, by rw [ht]; exact hI.1, hI.2.1, hI.2.2.F ht⟩
theorem sim_ireturn (C0 : mCx p s m args c cc nL own G cy z sa ro) (hI : mInv G cy z sa s h H locs) {w : Option Value} (hdg : decode cc pc = .ok (.ireturn, 1)) (hr : meth.sig.returnType = (match rk with | 0 => none | 1 => some .int | 2 => some .boolean | _ => some .long)) (hlk : meth.locks = false)
    (hs : mStep2 ro rk (.ireturn, 1, a1, a2, a3, v32, v64, sw) pc lo st h = some (.inr (.inl w))) : W p l e R s m args below meth c H locs cells slots (mEnd below args s G cy z sa w h cells slots) (F0 m pc ls (st.map (mTv (mAd z sa)))) := by
  obtain ⟨hx, hb, hml, hown, hts, hK, hro, hz⟩ := C0
  simp only [mStep2] at hs
  split at hs
  · rename_i x
    cases hs
    exact W.zret hx hb hr rfl (fun t ht hW => mEnd_q hI ht) hI.2.2.2.2 hdg hlk
  · rename_i x
    split at hs
    · rename_i hy
      cases hs
      refine W.zret hx hb hr ?_ (fun t ht hW => mEnd_q hI ht) hI.2.2.2.2 hdg hlk
      rcases hy with rfl | rfl <;> decide
    · cases hs
  · cases hs
theorem sim_lreturn (C0 : mCx p s m args c cc nL own G cy z sa ro) (hI : mInv G cy z sa s h H locs) {w : Option Value} (hdg : decode cc pc = .ok (.lreturn, 1)) (hr : meth.sig.returnType = (match rk with | 0 => none | 1 => some .int | 2 => some .boolean | _ => some .long)) (hlk : meth.locks = false)
    (hs : mStep2 ro rk (.lreturn, 1, a1, a2, a3, v32, v64, sw) pc lo st h = some (.inr (.inl w))) : W p l e R s m args below meth c H locs cells slots (mEnd below args s G cy z sa w h cells slots) (F0 m pc ls (st.map (mTv (mAd z sa)))) := by
  obtain ⟨hx, hb, hml, hown, hts, hK, hro, hz⟩ := C0
  simp only [mStep2] at hs
  split at hs
  · cases hs
    exact W.lret hx hb hr (fun t ht hW => mEnd_q hI ht) hI.2.2.2.2 hdg hlk
  · cases hs
theorem sim_return (C0 : mCx p s m args c cc nL own G cy z sa ro) (hI : mInv G cy z sa s h H locs) {w : Option Value} (hdg : decode cc pc = .ok (.return_, 1)) (hr : meth.sig.returnType = (match rk with | 0 => none | 1 => some .int | 2 => some .boolean | _ => some .long)) (hlk : meth.locks = false)
    (hs : mStep2 ro rk (.return_, 1, a1, a2, a3, v32, v64, sw) pc lo st h = some (.inr (.inl w))) : W p l e R s m args below meth c H locs cells slots (mEnd below args s G cy z sa w h cells slots) (F0 m pc ls (st.map (mTv (mAd z sa)))) := by
  obtain ⟨hx, hb, hml, hown, hts, hK, hro, hz⟩ := C0
  simp only [mStep2] at hs
  split at hs
  · cases hs
    exact W.vret hx hb hr (fun t ht hW => mEnd_q hI ht) hI.2.2.2.2 hdg hlk
  · cases hs
theorem sim_objInit (C0 : mCx p s m args c cc nL own G cy z sa ro) (hI : mInv G cy z sa s h H locs) (hl : mLv (mAd z sa) lo ls) (hnl : lo.length = nL) {w : Nat} {x : mR} (hdg : decode cc pc = .ok (.invokespecial w, 3)) (ha : Jvm.Cond.methodLink own w objectInit ∈ lw_tbl) (hroom : 1 ≤ R.frames ∧ 200 ≤ R.locals) (h3 : a3 = 1)
    (hs : mStep2 ro rk (.invokespecial w, 3, a1, a2, a3, v32, v64, sw) pc lo st h = some x) (K : mKh p l e R s m args below meth c cells slots Q G cy z sa x) : W p l e R s m args below meth c H locs cells slots Q (F0 m pc ls (st.map (mTv (mAd z sa)))) := by
  obtain ⟨hx, hb, hml, hown, hts, hK, hro, hz⟩ := C0
  subst h3
  simp only [mStep2, Nat.beq, cond_true] at hs
  split at hs
  · rename_i k r
    cases hc : Nat.ble (mCat r) 8 with
    | false => rw [hc] at hs; cases hs
    | true =>
      rw [hc] at hs
      have := mGo_inv hs
      subst this
      have hc8 := Nat.le_of_ble_eq_true hc
      refine W.objInit hx hb hown (hts _ (mGw_in ha rfl)) (hts _ (mGw_in mW_oinst rfl)) (hts _ (mGw_in mW_ocode rfl)) rfl (by rw [hml, ← hnl]; exact hl.1) (rest := r.map (mTv (mAd z sa))) rfl hdg hroom.1 ?_ (K _ _ _ _ _ _ rfl H locs ls hI hl)
      rw [mCat_eq, mCat_tv]
      show 2 * 0 + _ + 12 ≤ _
      omega
  · cases hs
theorem sim_copy (C0 : mCx p s m args c cc nL own G cy z sa ro) (hI : mInv G cy z sa s h H locs) (hl : mLv (mAd z sa) lo ls) (hnl : lo.length = nL) {w : Nat} {x : mR} (hdg : decode cc pc = .ok (.invokestatic w, 3)) (ha : Jvm.Cond.methodLink own w arraycopyName ∈ lw_tbl) (hroom : 1 ≤ R.frames ∧ 200 ≤ R.locals) (h3 : a3 = 1)
    (hs : mStep2 ro rk (.invokestatic w, 3, a1, a2, a3, v32, v64, sw) pc lo st h = some x) (K : mKh p l e R s m args below meth c cells slots Q G cy z sa x) : W p l e R s m args below meth c H locs cells slots Q (F0 m pc ls (st.map (mTv (mAd z sa)))) := by
  obtain ⟨hx, hb, hml, hown, hts, hK, hro, hz⟩ := C0
  subst h3
  simp only [mStep2, Nat.beq, cond_true] at hs
  split at hs
  · rename_i n dp d sp sr r
    split at hs
    · rename_i f g hf hg
      split at hs
      · cases hs
      · rename_i hno
        have := mGo_inv hs
        subst this
        have h1 : ¬ sp < 0 := fun q => hno (Or.inl (Or.inl (Or.inl q)))
        have h2 : ¬ dp < 0 := fun q => hno (Or.inl (Or.inl (Or.inr q)))
        have h3 : ¬ n < 0 := fun q => hno (Or.inl (Or.inr q))
        have h4 : sp.toNatClampNeg + n.toNatClampNeg ≤ f.length := Nat.not_lt.mp fun q => hno (Or.inr (Or.inl (Or.inl q)))
        have h5 : dp.toNatClampNeg + n.toNatClampNeg ≤ g.length := Nat.not_lt.mp fun q => hno (Or.inr (Or.inl (Or.inr q)))
        have h6 : mCat r ≤ 8 := Nat.not_lt.mp fun q => hno (Or.inr (Or.inr q))
        refine va_copyi hx hb (by rw [hml, ← hnl]; exact hl.1.symm) hown (hts _ (mGw_in ha rfl)) (hts _ (mGw_in mW_native rfl)) (hts _ (mGw_in mW_cstat rfl)) (hts _ (mGw_in mW_sys rfl)) hK hI.1 hI.2.1 hI.2.2 sr d 0 0 (mWs_get hf) (mWs_get hg) (rfl : (mTys cy)[0]? = some (cy 0, .int)) (rfl : (mTys cy)[0]? = some (cy 0, .int)) rfl h1 h2 h3 h4 h5 (fun i _ => rfl) hroom.1 ?_ hdg (fun H1 locs1 hP hD hS => ?_)
        · rw [mCat_eq, mCat_tv]
          have e : nativeFrameWords "java/lang/System" "arraycopy" 5 + 11 ≤ 100 := by decide
          omega
        · have e : (mWs (mAd z sa) cy h).set d (mAd z sa d, .inl (cy 0, g.length, .inl (va_cpy (fun j => f.getD j 0) (fun j => g.getD j 0) sp.toNatClampNeg dp.toNatClampNeg n.toNatClampNeg))) = mWs (mAd z sa) cy (h.set d (.inr (0, .inl (g.take dp.toNatClampNeg ++ ((f.drop sp.toNatClampNeg).take n.toNatClampNeg ++ g.drop (dp.toNatClampNeg + n.toNatClampNeg)))))) := by
            rw [mWs_set]
            simp only [mE]
            rw [mCpy_len f g _ _ _ h4 h5, mCpy_fun f g _ _ _ h4 h5]
          rw [e] at hP hD
          exact K _ _ _ _ _ _ rfl H1 locs1 ls ⟨hP, hD, hS⟩ hl
    · cases hs
  · cases hs
end S4
end
section
/-! every instruction, and a method's run, by induction -/
theorem mCI_use {own x : Nat} {v : Int32} (h : (mCI.any fun e => Nat.beq e.1 own && Nat.beq e.2.1 x && decide (e.2.2.1 = v)) = true) : Jvm.Cond.constant (mOwn own) x v ∈ lw_tbl := by
  obtain ⟨e, he, h⟩ := List.any_eq_true.mp h
  simp only [Bool.and_eq_true, decide_eq_true_eq] at h
  have := mIs_mem (List.all_eq_true.mp mCI_ok e he)
  rwa [Nat.eq_of_beq_eq_true h.1.1, Nat.eq_of_beq_eq_true h.1.2, h.2] at this
theorem mCJ_use {own x : Nat} {v : Int64} (h : (mCJ.any fun e => Nat.beq e.1 own && Nat.beq e.2.1 x && decide (e.2.2.1 = v)) = true) : Jvm.Cond.constantLong (mOwn own) x v ∈ lw_tbl := by
  obtain ⟨e, he, h⟩ := List.any_eq_true.mp h
  simp only [Bool.and_eq_true, decide_eq_true_eq] at h
  have := mIs_mem (List.all_eq_true.mp mCJ_ok e he)
  rwa [Nat.eq_of_beq_eq_true h.1.1, Nat.eq_of_beq_eq_true h.1.2, h.2] at this
theorem mFL_use {own x a1 a2 : Nat} (h : (mFL.any fun e => Nat.beq e.1 own && Nat.beq e.2.1 x && Nat.beq e.2.2.1 a1 && Nat.beq e.2.2.2.1 a2) = true) : mFd (mOwn own) x a1 a2 := by
  obtain ⟨e, he, h⟩ := List.any_eq_true.mp h
  simp only [Bool.and_eq_true] at h
  have := List.all_eq_true.mp mFL_ok e he
  simp only [Bool.and_eq_true] at this
  have h1 := mIs_mem this.1.1
  have h2 := Nat.blt_eq.mp this.1.2
  have h3 := Nat.blt_eq.mp this.2
  rw [Nat.eq_of_beq_eq_true h.1.1.1, Nat.eq_of_beq_eq_true h.1.1.2, Nat.eq_of_beq_eq_true h.1.2, Nat.eq_of_beq_eq_true h.2] at h1
  rw [Nat.eq_of_beq_eq_true h.1.2, Nat.eq_of_beq_eq_true h.2] at h2
  rw [Nat.eq_of_beq_eq_true h.1.2] at h3
  exact ⟨h1, h2, h3⟩
theorem mSL_use {own x a1 : Nat} (h : (mSL.any fun e => Nat.beq e.1 own && Nat.beq e.2.1 x && Nat.beq e.2.2.1 a1) = true) : Jvm.Cond.fieldLink (mOwn own) x ((mSn[a1]?).getD ("", "")).1 ((mSn[a1]?).getD ("", "")).2 "[I" ∈ lw_tbl ∧ a1 < 5 := by
  obtain ⟨e, he, h⟩ := List.any_eq_true.mp h
  simp only [Bool.and_eq_true] at h
  have := List.all_eq_true.mp mSL_ok e he
  simp only [Bool.and_eq_true] at this
  have h1 := mIs_mem this.1
  have h2 := Nat.blt_eq.mp this.2
  rw [Nat.eq_of_beq_eq_true h.1.1, Nat.eq_of_beq_eq_true h.1.2, Nat.eq_of_beq_eq_true h.2] at h1
  rw [Nat.eq_of_beq_eq_true h.2] at h2
  exact ⟨h1, h2⟩
theorem mNL_use {own x a1 : Nat} (h : (mNL.any fun e => Nat.beq e.1 own && Nat.beq e.2.1 x && Nat.beq e.2.2.1 a1) = true) : (Jvm.Cond.classLink (mOwn own) x (mCn a1) ∈ lw_tbl ∧ Jvm.Cond.instantiable (mCn a1) (mNf a1) ∈ lw_tbl ∧ Jvm.Cond.initialized (mCn a1) ∈ lw_tbl) ∧ a1 < 13 := by
  obtain ⟨e, he, h⟩ := List.any_eq_true.mp h
  simp only [Bool.and_eq_true] at h
  have := List.all_eq_true.mp mNL_ok e he
  simp only [Bool.and_eq_true] at this
  have h1 := mIs_mem this.1
  have h2 := Nat.blt_eq.mp this.2
  rw [Nat.eq_of_beq_eq_true h.1.1, Nat.eq_of_beq_eq_true h.1.2, Nat.eq_of_beq_eq_true h.2] at h1
  rw [Nat.eq_of_beq_eq_true h.2] at h2
  have h3 := List.all_eq_true.mp mCp_ok a1 (List.mem_range.mpr h2)
  simp only [Bool.and_eq_true] at h3
  exact ⟨⟨h1, mIs_mem h3.1, mIs_mem h3.2⟩, h2⟩
theorem mAL_use {own x : Nat} (h : (mAL.any fun e => Nat.beq e.1 own && Nat.beq e.2.1 x) = true) : Jvm.Cond.classLink (mOwn own) x "[[I" ∈ lw_tbl := by
  obtain ⟨e, he, h⟩ := List.any_eq_true.mp h
  simp only [Bool.and_eq_true] at h
  have := mIs_mem (List.all_eq_true.mp mAL_ok e he)
  rwa [Nat.eq_of_beq_eq_true h.1, Nat.eq_of_beq_eq_true h.2] at this
theorem mOL_use {own x : Nat} (h : (mOL.any fun e => Nat.beq e.1 own && Nat.beq e.2.1 x) = true) : Jvm.Cond.methodLink (mOwn own) x objectInit ∈ lw_tbl := by
  obtain ⟨e, he, h⟩ := List.any_eq_true.mp h
  simp only [Bool.and_eq_true] at h
  have := mIs_mem (List.all_eq_true.mp mOL_ok e he)
  rwa [Nat.eq_of_beq_eq_true h.1, Nat.eq_of_beq_eq_true h.2] at this
theorem mPL_use {own x : Nat} (h : (mPL.any fun e => Nat.beq e.1 own && Nat.beq e.2.1 x) = true) : Jvm.Cond.methodLink (mOwn own) x arraycopyName ∈ lw_tbl := by
  obtain ⟨e, he, h⟩ := List.any_eq_true.mp h
  simp only [Bool.and_eq_true] at h
  have := mIs_mem (List.all_eq_true.mp mPL_ok e he)
  rwa [Nat.eq_of_beq_eq_true h.1, Nat.eq_of_beq_eq_true h.2] at this
theorem mML_use {own x a1 : Nat} (h : (mML.any fun e => Nat.beq e.1 own && Nat.beq e.2.1 x && Nat.beq e.2.2.1 a1) = true) : Jvm.Cond.methodLink (mOwn own) x (mMeth a1).1 ∈ lw_tbl ∨ Jvm.Cond.methodLinkNest (mOwn own) x (mMeth a1).1 "ColdHolds" ∈ lw_tbl := by
  obtain ⟨e, he, h⟩ := List.any_eq_true.mp h
  simp only [Bool.and_eq_true] at h
  have := List.all_eq_true.mp mML_ok e he
  simp only [Bool.and_eq_true] at this
  have h1 := this.1
  rw [Nat.eq_of_beq_eq_true h.1.1, Nat.eq_of_beq_eq_true h.1.2, Nat.eq_of_beq_eq_true h.2] at h1
  cases hn : Nat.beq e.2.2.2.1 0 with
  | true => rw [hn] at h1; exact Or.inl (mIs_mem h1)
  | false => rw [hn] at h1; exact Or.inr (mIs_mem h1)
section S6
variable {p : Program} {l : Launch} {e : Env} {R : Room} {s : State} {m : MethodId} {args : Array Value} {below : List Frame} {meth : Method} {c : Code} {H : Heap} {locs : List Loc} {cells slots : Nat} {Q : State → Prop}
variable {cc : ByteArray} {nL : Nat} {own : Nat} {G : va_G} {cy : Nat → ClassId} {z : Nat} {sa : Nat → Nat} {ro : List (List Int32)} {pc len a1 a2 a3 : Nat} {v32 : Int32} {v64 : Int64} {sw : List (Int32 × Nat)} {lo : mO} {st : List Value} {h : mH} {ls : Array Slot} {rk : Nat} {ini : Bool} {ins : Instr}
set_option maxHeartbeats 4000000 in
theorem sim1 (C0 : mCx p s m args c cc nL (mOwn own) G cy z sa ro) (hI : mInv G cy z sa s h H locs) (hl : mLv (mAd z sa) lo ls) {x : mR} (hdg : decode cc pc = .ok (ins, len)) (hlen : mSwi ins = true ∨ len = mLen ins) (hok : mOk own ini pc (ins, len, a1, a2, a3, v32, v64, sw) = true)
    (hs : mStep1 ro (ins, len, a1, a2, a3, v32, v64, sw) pc lo st h = some x) (K : mKk p l e R s m args below meth c H locs cells slots Q (mAd z sa) h x) : W p l e R s m args below meth c H locs cells slots Q (F0 m pc ls (st.map (mTv (mAd z sa)))) := by
  cases ins with
  | iload_n q =>
    obtain rfl : len = 1 := hlen.resolve_left Bool.false_ne_true
    exact sim_iload_n C0 hl hdg (Nat.eq_of_beq_eq_true hok) hs K
  | aload_n q =>
    obtain rfl : len = 1 := hlen.resolve_left Bool.false_ne_true
    exact sim_aload_n C0 hl hdg (Nat.eq_of_beq_eq_true hok) hs K
  | lload_n q =>
    obtain rfl : len = 1 := hlen.resolve_left Bool.false_ne_true
    exact sim_lload_n C0 hl hdg (Nat.eq_of_beq_eq_true hok) hs K
  | istore_n q =>
    obtain rfl : len = 1 := hlen.resolve_left Bool.false_ne_true
    exact sim_istore_n C0 hl hdg (Nat.eq_of_beq_eq_true hok) hs K
  | astore_n q =>
    obtain rfl : len = 1 := hlen.resolve_left Bool.false_ne_true
    exact sim_astore_n C0 hl hdg (Nat.eq_of_beq_eq_true hok) hs K
  | lstore_n q =>
    obtain rfl : len = 1 := hlen.resolve_left Bool.false_ne_true
    exact sim_lstore_n C0 hl hdg (Nat.eq_of_beq_eq_true hok) hs K
  | iload q =>
    obtain rfl : len = 2 := hlen.resolve_left Bool.false_ne_true
    obtain rfl : q = a1 := Nat.eq_of_beq_eq_true hok
    exact sim_iload C0 hl hdg hs K
  | lload q =>
    obtain rfl : len = 2 := hlen.resolve_left Bool.false_ne_true
    obtain rfl : q = a1 := Nat.eq_of_beq_eq_true hok
    exact sim_lload C0 hl hdg hs K
  | istore q =>
    obtain rfl : len = 2 := hlen.resolve_left Bool.false_ne_true
    obtain rfl : q = a1 := Nat.eq_of_beq_eq_true hok
    exact sim_istore C0 hl hdg hs K
  | lstore q =>
    obtain rfl : len = 2 := hlen.resolve_left Bool.false_ne_true
    obtain rfl : q = a1 := Nat.eq_of_beq_eq_true hok
    exact sim_lstore C0 hl hdg hs K
  | iinc q w =>
    obtain rfl : len = 3 := hlen.resolve_left Bool.false_ne_true
    simp only [mOk, Bool.and_eq_true, decide_eq_true_eq] at hok
    obtain rfl : q = a1 := Nat.eq_of_beq_eq_true hok.1
    exact sim_iinc C0 hl hdg hok.2 hs K
  | iconst w =>
    obtain rfl : len = 1 := hlen.resolve_left Bool.false_ne_true
    exact sim_iconst C0 hl hdg (of_decide_eq_true hok) hs K
  | bipush w =>
    obtain rfl : len = 2 := hlen.resolve_left Bool.false_ne_true
    exact sim_bipush C0 hl hdg (of_decide_eq_true hok) hs K
  | sipush w =>
    obtain rfl : len = 3 := hlen.resolve_left Bool.false_ne_true
    exact sim_sipush C0 hl hdg (of_decide_eq_true hok) hs K
  | lconst w =>
    obtain rfl : len = 1 := hlen.resolve_left Bool.false_ne_true
    exact sim_lconst C0 hl hdg (of_decide_eq_true hok) hs K
  | ldc w =>
    obtain rfl : len = 2 := hlen.resolve_left Bool.false_ne_true
    exact sim_ldc C0 hl hdg (mCI_use hok) hs K
  | ldc_w w =>
    obtain rfl : len = 3 := hlen.resolve_left Bool.false_ne_true
    exact sim_ldc_w C0 hl hdg (mCI_use hok) hs K
  | ldc2_w w =>
    obtain rfl : len = 3 := hlen.resolve_left Bool.false_ne_true
    exact sim_ldc2 C0 hl hdg (mCJ_use hok) hs K
  | dup =>
    obtain rfl : len = 1 := hlen.resolve_left Bool.false_ne_true
    exact sim_dup C0 hl hdg hs K
  | dup2 =>
    obtain rfl : len = 1 := hlen.resolve_left Bool.false_ne_true
    exact sim_dup2 C0 hl hdg hs K
  | pop =>
    obtain rfl : len = 1 := hlen.resolve_left Bool.false_ne_true
    exact sim_pop C0 hl hdg hs K
  | iadd =>
    obtain rfl : len = 1 := hlen.resolve_left Bool.false_ne_true
    exact sim_iadd C0 hl hdg hs K
  | isub =>
    obtain rfl : len = 1 := hlen.resolve_left Bool.false_ne_true
    exact sim_isub C0 hl hdg hs K
  | imul =>
    obtain rfl : len = 1 := hlen.resolve_left Bool.false_ne_true
    exact sim_imul C0 hl hdg hs K
  | iand =>
    obtain rfl : len = 1 := hlen.resolve_left Bool.false_ne_true
    exact sim_iand C0 hl hdg hs K
  | ior =>
    obtain rfl : len = 1 := hlen.resolve_left Bool.false_ne_true
    exact sim_ior C0 hl hdg hs K
  | ixor =>
    obtain rfl : len = 1 := hlen.resolve_left Bool.false_ne_true
    exact sim_ixor C0 hl hdg hs K
  | ishl =>
    obtain rfl : len = 1 := hlen.resolve_left Bool.false_ne_true
    exact sim_ishl C0 hl hdg hs K
  | ishr =>
    obtain rfl : len = 1 := hlen.resolve_left Bool.false_ne_true
    exact sim_ishr C0 hl hdg hs K
  | iushr =>
    obtain rfl : len = 1 := hlen.resolve_left Bool.false_ne_true
    exact sim_iushr C0 hl hdg hs K
  | idiv =>
    obtain rfl : len = 1 := hlen.resolve_left Bool.false_ne_true
    exact sim_idiv C0 hl hdg hs K
  | irem =>
    obtain rfl : len = 1 := hlen.resolve_left Bool.false_ne_true
    exact sim_irem C0 hl hdg hs K
  | ineg =>
    obtain rfl : len = 1 := hlen.resolve_left Bool.false_ne_true
    exact sim_ineg C0 hl hdg hs K
  | ladd =>
    obtain rfl : len = 1 := hlen.resolve_left Bool.false_ne_true
    exact sim_ladd C0 hl hdg hs K
  | lsub =>
    obtain rfl : len = 1 := hlen.resolve_left Bool.false_ne_true
    exact sim_lsub C0 hl hdg hs K
  | lmul =>
    obtain rfl : len = 1 := hlen.resolve_left Bool.false_ne_true
    exact sim_lmul C0 hl hdg hs K
  | land =>
    obtain rfl : len = 1 := hlen.resolve_left Bool.false_ne_true
    exact sim_land C0 hl hdg hs K
  | lor =>
    obtain rfl : len = 1 := hlen.resolve_left Bool.false_ne_true
    exact sim_lor C0 hl hdg hs K
  | lshl =>
    obtain rfl : len = 1 := hlen.resolve_left Bool.false_ne_true
    exact sim_lshl C0 hl hdg hs K
  | lshr =>
    obtain rfl : len = 1 := hlen.resolve_left Bool.false_ne_true
    exact sim_lshr C0 hl hdg hs K
  | lushr =>
    obtain rfl : len = 1 := hlen.resolve_left Bool.false_ne_true
    exact sim_lushr C0 hl hdg hs K
  | lcmp =>
    obtain rfl : len = 1 := hlen.resolve_left Bool.false_ne_true
    exact sim_lcmp C0 hl hdg hs K
  | i2l =>
    obtain rfl : len = 1 := hlen.resolve_left Bool.false_ne_true
    exact sim_i2l C0 hl hdg hs K
  | l2i =>
    obtain rfl : len = 1 := hlen.resolve_left Bool.false_ne_true
    exact sim_l2i C0 hl hdg hs K
  | i2b =>
    obtain rfl : len = 1 := hlen.resolve_left Bool.false_ne_true
    exact sim_i2b C0 hl hdg hs K
  | goto off =>
    obtain rfl : len = 3 := hlen.resolve_left Bool.false_ne_true
    exact sim_goto C0 hl hdg (of_decide_eq_true hok) hs K
  | if_icmp cd off =>
    obtain rfl : len = 3 := hlen.resolve_left Bool.false_ne_true
    cases cd with
    | eq => exact sim_icmp_eq C0 hl hdg (of_decide_eq_true hok) hs K
    | ne => exact sim_icmp_ne C0 hl hdg (of_decide_eq_true hok) hs K
    | lt => exact sim_icmp_lt C0 hl hdg (of_decide_eq_true hok) hs K
    | ge => exact sim_icmp_ge C0 hl hdg (of_decide_eq_true hok) hs K
    | gt => exact sim_icmp_gt C0 hl hdg (of_decide_eq_true hok) hs K
    | le => exact sim_icmp_le C0 hl hdg (of_decide_eq_true hok) hs K
  | ifCond cd off =>
    obtain rfl : len = 3 := hlen.resolve_left Bool.false_ne_true
    cases cd with
    | eq => exact sim_if_eq C0 hl hdg (of_decide_eq_true hok) hs K
    | ne => exact sim_if_ne C0 hl hdg (of_decide_eq_true hok) hs K
    | lt => exact sim_if_lt C0 hl hdg (of_decide_eq_true hok) hs K
    | ge => exact sim_if_ge C0 hl hdg (of_decide_eq_true hok) hs K
    | gt => exact sim_if_gt C0 hl hdg (of_decide_eq_true hok) hs K
    | le => exact sim_if_le C0 hl hdg (of_decide_eq_true hok) hs K
  | tableswitch d tl th os =>
    simp only [mOk, Bool.and_eq_true, decide_eq_true_eq] at hok
    exact sim_tableswitch C0 hl hdg hok.1.1.1 hok.1.1.2 hok.1.2 hok.2 hs K
  | lookupswitch d ps =>
    have hok2 : (decide ((pc : Int) + d = (a1 : Int)) && mLkOk pc ps.toList sw && (ps.toList.zip (ps.toList.drop 1)).all (fun (a, next) => a.1 < next.1)) = true := hok
    rw [Bool.and_eq_true, Bool.and_eq_true, decide_eq_true_eq] at hok2
    exact sim_lookupswitch C0 hl hdg hok2.1.1 hok2.1.2 hok2.2 hs K
  | getstatic w =>
    obtain rfl : len = 3 := hlen.resolve_left Bool.false_ne_true
    exact sim_getstatic C0 hI hl hdg (mSL_use hok).1 (mSL_use hok).2 hs K
  | getfield w =>
    obtain rfl : len = 3 := hlen.resolve_left Bool.false_ne_true
    exact sim_getfield C0 hI hl hdg (mFL_use hok) hs K
  | aaload => cases hs
  | aastore => cases hs
  | aconst_null => cases hs
  | aload _ => cases hs
  | anewarray _ => cases hs
  | areturn => cases hs
  | arraylength => cases hs
  | astore _ => cases hs
  | athrow => cases hs
  | baload => cases hs
  | bastore => cases hs
  | caload => cases hs
  | castore => cases hs
  | checkcast _ => cases hs
  | d2f => cases hs
  | d2i => cases hs
  | d2l => cases hs
  | dadd => cases hs
  | daload => cases hs
  | dastore => cases hs
  | dcmp _ => cases hs
  | dconst _ => cases hs
  | ddiv => cases hs
  | dload _ => cases hs
  | dload_n _ => cases hs
  | dmul => cases hs
  | dneg => cases hs
  | drem => cases hs
  | dreturn => cases hs
  | dstore _ => cases hs
  | dstore_n _ => cases hs
  | dsub => cases hs
  | dup_x1 => cases hs
  | dup_x2 => cases hs
  | dup2_x1 => cases hs
  | dup2_x2 => cases hs
  | f2d => cases hs
  | f2i => cases hs
  | f2l => cases hs
  | fadd => cases hs
  | faload => cases hs
  | fastore => cases hs
  | fcmp _ => cases hs
  | fconst _ => cases hs
  | fdiv => cases hs
  | fload _ => cases hs
  | fload_n _ => cases hs
  | fmul => cases hs
  | fneg => cases hs
  | frem => cases hs
  | freturn => cases hs
  | fstore _ => cases hs
  | fstore_n _ => cases hs
  | fsub => cases hs
  | goto_w _ => cases hs
  | i2c => cases hs
  | i2d => cases hs
  | i2f => cases hs
  | i2s => cases hs
  | iaload => cases hs
  | iastore => cases hs
  | if_acmp _ _ => cases hs
  | ifnonnull _ => cases hs
  | ifnull _ => cases hs
  | instanceof _ => cases hs
  | invokedynamic _ => cases hs
  | invokeinterface _ _ => cases hs
  | invokespecial _ => cases hs
  | invokestatic _ => cases hs
  | invokevirtual _ => cases hs
  | ireturn => cases hs
  | jsr _ => cases hs
  | jsr_w _ => cases hs
  | l2d => cases hs
  | l2f => cases hs
  | laload => cases hs
  | lastore => cases hs
  | ldiv => cases hs
  | lneg => cases hs
  | lrem => cases hs
  | lreturn => cases hs
  | lxor => cases hs
  | monitorenter => cases hs
  | monitorexit => cases hs
  | multianewarray _ _ => cases hs
  | new _ => cases hs
  | newarray _ => cases hs
  | nop => cases hs
  | pop2 => cases hs
  | putfield _ => cases hs
  | putstatic _ => cases hs
  | ret _ => cases hs
  | return_ => cases hs
  | saload => cases hs
  | sastore => cases hs
  | swap => cases hs
end S6
end
section
/-! calls; a run of the small machine is a run of the machine -/
theorem mP_use {y : Nat} (h : y < 264) : Jvm.Cond.initialized (mMeth y).1.cls ∈ lw_tbl ∧ ((mMeth y).2.2.2.2.2.2.2.2 = true → Jvm.Cond.static (mMeth y).1 ∈ lw_tbl) ∧ ((mMeth y).2.2.2.2.2.2.2.2 = false → Jvm.Cond.instanceMethod (mMeth y).1 ∈ lw_tbl) ∧ ((mMeth y).2.2.2.2.2.2.2.2 = false → ¬ (mMeth y).1.name = "<init>" → Jvm.Cond.selects (mMeth y).1.cls (mMeth y).1 (mMeth y).1 ∈ lw_tbl)
    ∧ mOwn (mMeth y).2.2.2.2.1 = (mMeth y).1.cls ∧ plainFor (mMeth y).1 = true ∧ ((mMeth y).1.cls ≠ "java/lang/invoke/MethodHandle" ∧ (mMeth y).1.cls ≠ "java/lang/invoke/VarHandle" ∧ (parseMethodDescriptor (mMeth y).1.desc).map (fun d => d.parameters.length) = some ((mMeth y).2.2.2.2.2.2.1 - (bif (mMeth y).2.2.2.2.2.2.2.2 then 0 else 1)))
    ∧ (mMeth y).2.2.1 ≤ 12 ∧ ((mMeth y).2.2.2.2.2.2.2.2 = false → 1 ≤ (mMeth y).2.2.2.2.2.2.1 ∧ (mMeth y).2.2.2.2.1 < 13 ∧ mCn (mMeth y).2.2.2.2.1 = (mMeth y).1.cls)
    ∧ (mMeth y).2.2.2.1 = (match (mMeth y).2.2.2.2.2.1 with | 0 => none | 1 => some .int | 2 => some .boolean | _ => some .long) := by
  have hp : mPOk y (mMeth y) ((mPs[y]?).getD (0, 0, 0, 0)) = true := mPs_ok y (Nat.zero_le _) h
  unfold mPOk at hp
  simp only [Bool.and_eq_true, Bool.or_eq_true, decide_eq_true_eq] at hp
  obtain ⟨⟨⟨⟨⟨⟨⟨⟨⟨⟨h1, h2⟩, h3⟩, h4⟩, h5⟩, h6⟩, h7⟩, h8⟩, h9⟩, h10⟩, h11⟩ := hp
  refine ⟨mIs_mem h1, fun hs => ?_, fun hs => ?_, fun hs hn => ?_, h4, h5, h6, Nat.le_of_ble_eq_true h8, fun hs => ?_, h10⟩
  · rw [hs] at h2; exact mIs_mem h2
  · rw [hs] at h2; exact mIs_mem h2
  · rcases h3 with (q | q) | q
    · rw [hs] at q; cases q
    · exact absurd q hn
    · exact mIs_mem q
  · rcases h9 with q | q
    · rw [hs] at q; cases q
    · exact ⟨Nat.le_of_ble_eq_true q.1.1, Nat.blt_eq.mp q.1.2, q.2⟩
theorem mC_use {y : Nat} (h : y < 264) : Jvm.Cond.code (mMeth y).1 (mMeth y).2.1 (mMeth y).2.2.1 (mMeth y).2.2.2.1 ∈ lw_tbl := List.mem_of_getElem? (mCode_ok y (Nat.zero_le _) h)
theorem mG_ws {y : Nat} (h : y < 264) : GoodIn mGw (.code (mMeth y).1 (mMeth y).2.1 (mMeth y).2.2.1 (mMeth y).2.2.2.1 :: mGw) := fun w hw => by
  rcases List.mem_cons.mp hw with rfl | hw
  · exact mGw_good _ (mGw_in (mC_use h) rfl)
  · exact mGw_good _ hw
theorem mRecv_use {h : mH} {ci : Nat} {as : List Value} (hr : mRecv h ci as = true) : ∃ (k : Nat) (r : List Value) (fs : List Value), as = .ref k :: r ∧ h[k]? = some (.inl (ci, fs)) := by
  unfold mRecv at hr
  split at hr
  · rename_i k r
    split at hr
    · rename_i c fs hh
      rw [Nat.eq_of_beq_eq_true hr] at hh
      exact ⟨k, r, fs, rfl, hh⟩
    · cases hr
  · cases hr
section S7
variable {p : Program} {l : Launch} {e : Env} {R : Room} {s : State} {m : MethodId} {args : Array Value} {below : List Frame} {meth : Method} {c : Code} {H : Heap} {locs : List Loc} {cells slots : Nat} {Q : State → Prop}
variable {cc : ByteArray} {nL : Nat} {own : Nat} {G : va_G} {cy : Nat → ClassId} {z : Nat} {sa : Nat → Nat} {ro : List (List Int32)} {pc len a1 a2 a3 : Nat} {v32 : Int32} {v64 : Int64} {sw : List (Int32 × Nat)} {lo : mO} {st : List Value} {h : mH} {ls : Array Slot} {rk : Nat} {ini : Bool} {ins : Instr}
theorem mCall {w : Option Value} {h1 : mH} {a : Array Value} {mc ms : Nat} {st0 rest : List Value} (hr : va_Run p l e R s m args below meth c H locs cells slots mc ms (F0 m pc ls st0) rest (mQc G cy z sa w h1 a) (mA z)) (hS : va_S (mA z) s.heap H locs)
    (kk : ∀ (H1 : Heap) (locs1 : List Loc), mInv G cy z sa s h1 H1 locs1 → W p l e R s m args below meth c H1 locs1 (cells + mc) (slots + ms) Q (F0 m (pc + 3) ls ((w.map (mTv (mAd z sa))).toList ++ rest))) : W p l e R s m args below meth c H locs cells slots Q (F0 m pc ls st0) := by
  intro T hT X
  obtain ⟨v, st₀, t, T', L, h0, X', hL, e1, e2, ⟨hv, hP, hD, hz, hk⟩, st⟩ := hr T hT X
  cases hv
  rw [h0] at hz hk
  rw [← e1] at hP hz hk
  obtain ⟨t2, a1, b1⟩ := kk T'.heap (locs ++ L) ⟨hP, hD, ⟨Nat.le_trans hS.1 hz, fun q h1 h2 => by rw [hk q (Nat.lt_of_lt_of_le h1 hS.1) h2]; exact hS.2.1 q h1 h2, fun q hq => by
      rcases List.mem_append.mp hq with h | h
      · exact hS.2.2 q h
      · exact hL q h⟩⟩ T' rfl X'
  exact ⟨t2, st t2 a1, b1⟩
theorem mPc_at (C0 : mCx p s m args c cc nL (mOwn own) G cy z sa ro) (hI : mInv G cy z sa s h H locs) (hNw : mNw s) (hsz : H.size = z + h.length) {as : List Value} {U : State} (hU : U.heap = H) (hW : s.WarmedH U.vm) : mPc G cy z sa ro as h (as.map (mTv (mAd z sa))).toArray U := by
  obtain ⟨hx, hb, hml, hown, hts, hK, hro, hz⟩ := C0
  refine ⟨rfl, by rw [hU]; exact hI.1, hI.2.1, va_K.moved hW.alike hK, ?_, by rw [hU]; exact hsz, mNw.warm hW hNw⟩
  rw [hU]
  exact mRo.moved hW.alike (hro.kept (fun a h1 h2 => hI.2.2.2.1 a h1 h2))
theorem sim_inv (l : Launch) (C0 : mCx p s m args c cc nL (mOwn own) G cy z sa ro) (hI : mInv G cy z sa s h H locs) (hl : mLv (mAd z sa) lo ls) (hnl : lo.length = nL) (hNw : mNw s) (hsz : H.size = z + h.length) {w : Nat} (hdg : decode cc pc = .ok (.invokevirtual w, 3)) (hok : mOk own ini pc (.invokevirtual w, 3, a1, a2, a3, v32, v64, sw) = true)
    {d TC TS y : Nat} {as r : List Value} (hs : mStep2 ro rk (.invokevirtual w, 3, a1, a2, a3, v32, v64, sw) pc lo st h = some (.inr (.inr (y, as, r)))) (hy : y < 264) {v : Option Value} {h1 : mH} {c1 s1 : Nat} (hM : mMet l G cy z sa ro d y as h v h1 c1 s1) (hf : cells + c1 ≤ TC ∧ slots + s1 ≤ TS)
    (kk : ∀ (H1 : Heap) (locs1 : List Loc), mInv G cy z sa s h1 H1 locs1 → W p l e (mRm (d + 1) TC TS) s m args below meth c H1 locs1 (cells + c1) (slots + s1) Q (F0 m (pc + 3) ls ((v.toList ++ r).map (mTv (mAd z sa))))) : W p l e (mRm (d + 1) TC TS) s m args below meth c H locs cells slots Q (F0 m pc ls (st.map (mTv (mAd z sa)))) := by
  have C1 := C0
  obtain ⟨hx, hb, hml, hown, hts, hK, hro, hz⟩ := C0
  simp only [mStep2] at hs
  cases hc : (Nat.ble a2 st.length && Nat.ble (mCat (st.drop a2)) 8 && mRecv h a3 (st.take a2).reverse) with
  | false => rw [hc] at hs; cases hs
  | true =>
    rw [hc] at hs
    simp only [cond_true, Option.some.injEq, Sum.inr.injEq, Prod.mk.injEq] at hs
    obtain ⟨rfl, rfl, rfl⟩ := hs
    simp only [Bool.and_eq_true] at hc
    obtain ⟨⟨hc1, hc2⟩, hc3⟩ := hc
    have hc1 := Nat.le_of_ble_eq_true hc1
    have hc2 := Nat.le_of_ble_eq_true hc2
    have hok2 : ((mML.any fun e => Nat.beq e.1 own && Nat.beq e.2.1 w && Nat.beq e.2.2.1 a1) && Nat.beq (mMeth a1).2.2.2.2.2.2.1 a2 && !(mMeth a1).2.2.2.2.2.2.2.2 && Nat.beq (mMeth a1).2.2.2.2.1 a3 && !decide ((mMeth a1).1.name = "<init>") && Nat.blt a3 13) = true := hok
    simp only [Bool.and_eq_true, Bool.not_eq_true', decide_eq_false_iff_not] at hok2
    obtain ⟨⟨⟨⟨⟨k1, k2⟩, k3⟩, k4⟩, k5⟩, k6⟩ := hok2
    have k2 := Nat.eq_of_beq_eq_true k2
    have k4 := Nat.eq_of_beq_eq_true k4
    have k6 := Nat.blt_eq.mp k6
    obtain ⟨q1, q2, q3, q4, q5, q6, q7, q8, q9, q10⟩ := mP_use hy
    obtain ⟨n1, n2, n3⟩ := q9 k3
    obtain ⟨kr, ar, fs, har, hkr⟩ := mRecv_use hc3
    have hast : st = (ar.reverse ++ [.ref kr]) ++ st.drop a2 := by
      have e1 : st.take a2 = ar.reverse ++ [.ref kr] := by
        rw [← List.reverse_reverse (st.take a2), har, List.reverse_cons]
      rw [← e1, List.take_append_drop]
    have hlen : ar.length + 1 = a2 := by
      have := congrArg List.length har
      rw [List.length_reverse, List.length_take, List.length_cons] at this
      omega
    generalize hrest : st.drop a2 = rest at *
    rw [har] at hM
    have hd : (mMeth a1).1.cls ≠ "java/lang/invoke/MethodHandle" ∧ (mMeth a1).1.cls ≠ "java/lang/invoke/VarHandle" ∧ (parseMethodDescriptor (mMeth a1).1.desc).map (fun d => d.parameters.length) = some (a2 - 1) := by rw [k3] at q7; rw [← k2]; exact q7
    have hR : (mRm d c1 s1).frames + 1 ≤ (mRm (d + 1) TC TS).frames ∧ 8 + ((mMeth a1).2.2.1 + 11) + (mRm d c1 s1).locals ≤ (mRm (d + 1) TC TS).locals := ⟨Nat.le_refl _, by show 8 + (_ + 11) + (32 * d + 200) ≤ 32 * (d + 1) + 200; omega⟩
    have hpv : PreV s H (mMeth a1).1.cls (mAd z sa kr) (mPc G cy z sa ro (.ref kr :: ar) h) (ar.map (mTv (mAd z sa))) := by
      refine ⟨mPc_blind, ?_, fun U hU hW => mPc_at (as := .ref kr :: ar) C1 hI hNw hsz hU hW⟩
      have := va_recv (q := (mCn a3, mT a3, mNf a3)) hK hI.1 (mCl_at k6) (mWs_get hkr)
      rw [show (mCn a3, mT a3, mNf a3).1 = (mMeth a1).1.cls from by rw [← n3, k4]] at this
      exact this
    have hst : ((ar.map (mTv (mAd z sa))).reverse ++ List.map (mTv (mAd z sa)) [Value.ref kr]) ++ rest.map (mTv (mAd z sa)) = (ar.map (mTv (mAd z sa))).reverse ++ .ref (mAd z sa kr) :: rest.map (mTv (mAd z sa)) := by simp [mTv]
    have hrun : va_Run p l e (mRm (d + 1) TC TS) s m args below meth c H locs cells slots c1 s1 (F0 m pc ls (((ar.map (mTv (mAd z sa))).reverse ++ List.map (mTv (mAd z sa)) [Value.ref kr]) ++ rest.map (mTv (mAd z sa)))) (rest.map (mTv (mAd z sa))) (mQc G cy z sa v h1 (Value.ref (mAd z sa kr) :: ar.map (mTv (mAd z sa))).toArray) (mA z) := by
      rcases mML_use k1 with q | q
      · exact va_runV (C := (mMeth a1).1.cls) (n := a2 - 1) ⟨hx, hb, hml, hown, hts⟩ hM ⟨callB_of (a2 - 1) hts (mG_ws hy) rfl rfl rfl (hts _ (mGw_in q1 rfl)) (hts _ (mGw_in q rfl)) hd hR, hts _ (mGw_in (q3 k3) rfl), hts _ (mGw_in (q4 k3 k5) rfl)⟩ hpv rfl (by rw [List.length_map]; omega) (by rw [← hnl]; exact hl.1) hst (lv_room (by rw [mCat_eq, mCat_tv]; exact hc2)) hdg hf
      · exact va_runVN (C := (mMeth a1).1.cls) (n := a2 - 1) ⟨hx, hb, hml, hown, hts⟩ hM ⟨va_cnB (a2 - 1) hts (mG_ws hy) rfl rfl rfl (hNw.1 _ _ _ _ q) (hts _ (mGw_in q1 rfl)) hd hR, hts _ (mGw_in (q3 k3) rfl), hts _ (mGw_in (q4 k3 k5) rfl)⟩ hpv rfl (by rw [List.length_map]; omega) (by rw [← hnl]; exact hl.1) hst (lv_room (by rw [mCat_eq, mCat_tv]; exact hc2)) hdg hf
    rw [hast, List.map_append, List.map_append, List.map_reverse]
    refine mCall hrun hI.2.2 (fun H1 locs1 hI1 => ?_)
    have := kk H1 locs1 hI1
    rw [List.map_append] at this
    cases v <;> exact this
theorem sim_spec (l : Launch) (C0 : mCx p s m args c cc nL (mOwn own) G cy z sa ro) (hI : mInv G cy z sa s h H locs) (hl : mLv (mAd z sa) lo ls) (hnl : lo.length = nL) (hNw : mNw s) (hsz : H.size = z + h.length) {w : Nat} (hdg : decode cc pc = .ok (.invokespecial w, 3)) (hok : mOk own ini pc (.invokespecial w, 3, a1, a2, a3, v32, v64, sw) = true)
    {d TC TS y : Nat} {as r : List Value} (hs : mStep2 ro rk (.invokespecial w, 3, a1, a2, a3, v32, v64, sw) pc lo st h = some (.inr (.inr (y, as, r)))) (hy : y < 264) {v : Option Value} {h1 : mH} {c1 s1 : Nat} (hM : mMet l G cy z sa ro d y as h v h1 c1 s1) (hf : cells + c1 ≤ TC ∧ slots + s1 ≤ TS)
    (kk : ∀ (H1 : Heap) (locs1 : List Loc), mInv G cy z sa s h1 H1 locs1 → W p l e (mRm (d + 1) TC TS) s m args below meth c H1 locs1 (cells + c1) (slots + s1) Q (F0 m (pc + 3) ls ((v.toList ++ r).map (mTv (mAd z sa))))) : W p l e (mRm (d + 1) TC TS) s m args below meth c H locs cells slots Q (F0 m pc ls (st.map (mTv (mAd z sa)))) := by
  have C1 := C0
  obtain ⟨hx, hb, hml, hown, hts, hK, hro, hz⟩ := C0
  simp only [mStep2] at hs
  cases h3 : Nat.beq a3 1 with
  | true =>
    rw [h3] at hs
    simp only [cond_true] at hs
    split at hs
    · rename_i k r2
      cases hc : Nat.ble (mCat r2) 8 <;> rw [hc] at hs <;> simp [mGo] at hs
    · cases hs
  | false =>
    rw [h3] at hs
    simp only [cond_false] at hs
    split at hs
    · rename_i kr ar har
      cases hc : (Nat.ble a2 st.length && Nat.ble (mCat (st.drop a2)) 8) with
      | false => rw [hc] at hs; cases hs
      | true =>
        rw [hc] at hs
        simp only [cond_true, Option.some.injEq, Sum.inr.injEq, Prod.mk.injEq] at hs
        obtain ⟨rfl, rfl, rfl⟩ := hs
        simp only [Bool.and_eq_true] at hc
        obtain ⟨hc1, hc2⟩ := hc
        have hc1 := Nat.le_of_ble_eq_true hc1
        have hc2 := Nat.le_of_ble_eq_true hc2
        have hok2 : (bif Nat.beq a3 1 then (mOL.any fun e => Nat.beq e.1 own && Nat.beq e.2.1 w) else (mML.any fun e => Nat.beq e.1 own && Nat.beq e.2.1 w && Nat.beq e.2.2.1 a1) && Nat.beq (mMeth a1).2.2.2.2.2.2.1 a2 && !(mMeth a1).2.2.2.2.2.2.2.2 && decide ((mMeth a1).1.name = "<init>") && decide ((mMeth a1).2.2.2.1 = none)) = true := hok
        rw [h3] at hok2
        simp only [cond_false, Bool.and_eq_true, Bool.not_eq_true', decide_eq_true_eq] at hok2
        obtain ⟨⟨⟨⟨k1, k2⟩, k3⟩, k4⟩, k5⟩ := hok2
        have k2 := Nat.eq_of_beq_eq_true k2
        obtain ⟨q1, q2, q3, q4, q5, q6, q7, q8, q9, q10⟩ := mP_use hy
        have hast : st = (ar.reverse ++ [.ref kr]) ++ st.drop a2 := by
          have e1 : st.take a2 = ar.reverse ++ [.ref kr] := by
            rw [← List.reverse_reverse (st.take a2), har, List.reverse_cons]
          rw [← e1, List.take_append_drop]
        have hlen : ar.length + 1 = a2 := by
          have := congrArg List.length har
          rw [List.length_reverse, List.length_take, List.length_cons] at this
          omega
        generalize hrest : st.drop a2 = rest at *
        have hd : (mMeth a1).1.cls ≠ "java/lang/invoke/MethodHandle" ∧ (mMeth a1).1.cls ≠ "java/lang/invoke/VarHandle" ∧ (parseMethodDescriptor (mMeth a1).1.desc).map (fun d => d.parameters.length) = some (a2 - 1) := by rw [k3] at q7; rw [← k2]; exact q7
        have hR : (mRm d c1 s1).frames + 1 ≤ (mRm (d + 1) TC TS).frames ∧ 8 + ((mMeth a1).2.2.1 + 11) + (mRm d c1 s1).locals ≤ (mRm (d + 1) TC TS).locals := ⟨Nat.le_refl _, by show 8 + (_ + 11) + (32 * d + 200) ≤ 32 * (d + 1) + 200; omega⟩
        have hps : PreS s H (mPc G cy z sa ro (.ref kr :: ar) h) (.ref (mAd z sa kr) :: ar.map (mTv (mAd z sa))) := ⟨mPc_blind, fun U hU hW => mPc_at (as := .ref kr :: ar) C1 hI hNw hsz hU hW⟩
        have hst : ((ar.map (mTv (mAd z sa))).reverse ++ List.map (mTv (mAd z sa)) [Value.ref kr]) ++ rest.map (mTv (mAd z sa)) = (ar.map (mTv (mAd z sa))).reverse ++ .ref (mAd z sa kr) :: rest.map (mTv (mAd z sa)) := by simp [mTv]
        unfold mMet at hM
        rw [k5] at hM
        have hG := mG_ws hy
        rw [k5] at hG
        have hrun : va_Run p l e (mRm (d + 1) TC TS) s m args below meth c H locs cells slots c1 s1 (F0 m pc ls (((ar.map (mTv (mAd z sa))).reverse ++ List.map (mTv (mAd z sa)) [Value.ref kr]) ++ rest.map (mTv (mAd z sa)))) (rest.map (mTv (mAd z sa))) (mQc G cy z sa v h1 (Value.ref (mAd z sa kr) :: ar.map (mTv (mAd z sa))).toArray) (mA z) := by
          rcases mML_use k1 with q | q
          · exact va_runI (n := a2 - 1) ⟨hx, hb, hml, hown, hts⟩ hM (cwI (a2 - 1) hts hG rfl rfl rfl (hts _ (mGw_in q1 rfl)) (hts _ (mGw_in q rfl)) (hts _ (mGw_in (q3 k3) rfl)) k4 hd hR) hps rfl (by rw [List.length_map]; omega) (by rw [← hnl]; exact hl.1) hst (lv_room (by rw [mCat_eq, mCat_tv]; exact hc2)) hdg hf
          · exact va_runIN (n := a2 - 1) ⟨hx, hb, hml, hown, hts⟩ hM ⟨va_cnB (a2 - 1) hts hG rfl rfl rfl (hNw.1 _ _ _ _ q) (hts _ (mGw_in q1 rfl)) hd hR, k4, hts _ (mGw_in (q3 k3) rfl)⟩ hps rfl (by rw [List.length_map]; omega) (by rw [← hnl]; exact hl.1) hst (lv_room (by rw [mCat_eq, mCat_tv]; exact hc2)) hdg hf
        rw [hast, List.map_append, List.map_append, List.map_reverse]
        refine mCall hrun hI.2.2 (fun H1 locs1 hI1 => ?_)
        have := kk H1 locs1 hI1
        rw [List.map_append] at this
        cases v <;> exact this
    · cases hs
theorem sim_stat (l : Launch) (C0 : mCx p s m args c cc nL (mOwn own) G cy z sa ro) (hI : mInv G cy z sa s h H locs) (hl : mLv (mAd z sa) lo ls) (hnl : lo.length = nL) (hNw : mNw s) (hsz : H.size = z + h.length) {w : Nat} (hdg : decode cc pc = .ok (.invokestatic w, 3)) (hok : mOk own ini pc (.invokestatic w, 3, a1, a2, a3, v32, v64, sw) = true)
    {d TC TS y : Nat} {as r : List Value} (hs : mStep2 ro rk (.invokestatic w, 3, a1, a2, a3, v32, v64, sw) pc lo st h = some (.inr (.inr (y, as, r)))) (hy : y < 264) {v : Option Value} {h1 : mH} {c1 s1 : Nat} (hM : mMet l G cy z sa ro d y as h v h1 c1 s1) (hf : cells + c1 ≤ TC ∧ slots + s1 ≤ TS)
    (kk : ∀ (H1 : Heap) (locs1 : List Loc), mInv G cy z sa s h1 H1 locs1 → W p l e (mRm (d + 1) TC TS) s m args below meth c H1 locs1 (cells + c1) (slots + s1) Q (F0 m (pc + 3) ls ((v.toList ++ r).map (mTv (mAd z sa))))) : W p l e (mRm (d + 1) TC TS) s m args below meth c H locs cells slots Q (F0 m pc ls (st.map (mTv (mAd z sa)))) := by
  have C1 := C0
  obtain ⟨hx, hb, hml, hown, hts, hK, hro, hz⟩ := C0
  simp only [mStep2] at hs
  cases h3 : Nat.beq a3 1 with
  | true =>
    rw [h3] at hs
    simp only [cond_true] at hs
    split at hs
    · split at hs
      · split at hs
        · cases hs
        · simp [mGo] at hs
      · cases hs
    · cases hs
  | false =>
    rw [h3] at hs
    simp only [cond_false] at hs
    cases hc : (Nat.ble a2 st.length && Nat.ble (mCat (st.drop a2)) 8) with
    | false => rw [hc] at hs; cases hs
    | true =>
      rw [hc] at hs
      simp only [cond_true, Option.some.injEq, Sum.inr.injEq, Prod.mk.injEq] at hs
      obtain ⟨rfl, rfl, rfl⟩ := hs
      simp only [Bool.and_eq_true] at hc
      obtain ⟨hc1, hc2⟩ := hc
      have hc1 := Nat.le_of_ble_eq_true hc1
      have hc2 := Nat.le_of_ble_eq_true hc2
      have hok2 : (bif Nat.beq a3 1 then (mPL.any fun e => Nat.beq e.1 own && Nat.beq e.2.1 w) else (mML.any fun e => Nat.beq e.1 own && Nat.beq e.2.1 w && Nat.beq e.2.2.1 a1) && Nat.beq (mMeth a1).2.2.2.2.2.2.1 a2 && (mMeth a1).2.2.2.2.2.2.2.2) = true := hok
      rw [h3] at hok2
      simp only [cond_false, Bool.and_eq_true] at hok2
      obtain ⟨⟨k1, k2⟩, k3⟩ := hok2
      have k2 := Nat.eq_of_beq_eq_true k2
      obtain ⟨q1, q2, q3, q4, q5, q6, q7, q8, q9, q10⟩ := mP_use hy
      have hlen : (st.take a2).reverse.length = a2 := by rw [List.length_reverse, List.length_take]; omega
      have hast : st = (st.take a2).reverse.reverse ++ st.drop a2 := by rw [List.reverse_reverse, List.take_append_drop]
      generalize hrest : st.drop a2 = rest at *
      generalize hgas : (st.take a2).reverse = ga at *
      have hd : (mMeth a1).1.cls ≠ "java/lang/invoke/MethodHandle" ∧ (mMeth a1).1.cls ≠ "java/lang/invoke/VarHandle" ∧ (parseMethodDescriptor (mMeth a1).1.desc).map (fun d => d.parameters.length) = some a2 := by rw [k3] at q7; rw [← k2]; exact q7
      have hR : (mRm d c1 s1).frames + 1 ≤ (mRm (d + 1) TC TS).frames ∧ 8 + ((mMeth a1).2.2.1 + 11) + (mRm d c1 s1).locals ≤ (mRm (d + 1) TC TS).locals := ⟨Nat.le_refl _, by show 8 + (_ + 11) + (32 * d + 200) ≤ 32 * (d + 1) + 200; omega⟩
      have hps : PreS s H (mPc G cy z sa ro ga h) (ga.map (mTv (mAd z sa))) := ⟨mPc_blind, fun U hU hW => mPc_at (as := ga) C1 hI hNw hsz hU hW⟩
      have hrun : va_Run p l e (mRm (d + 1) TC TS) s m args below meth c H locs cells slots c1 s1 (F0 m pc ls ((ga.map (mTv (mAd z sa))).reverse ++ rest.map (mTv (mAd z sa)))) (rest.map (mTv (mAd z sa))) (mQc G cy z sa v h1 (ga.map (mTv (mAd z sa))).toArray) (mA z) := by
        rcases mML_use k1 with q | q
        · exact va_runS (n := a2) ⟨hx, hb, hml, hown, hts⟩ hM ⟨callB_of a2 hts (mG_ws hy) rfl rfl rfl (hts _ (mGw_in q1 rfl)) (hts _ (mGw_in q rfl)) hd hR, hts _ (mGw_in (q2 k3) rfl)⟩ hps rfl (by rw [List.length_map]; omega) (by rw [← hnl]; exact hl.1) rfl (lv_room (by rw [mCat_eq, mCat_tv]; exact hc2)) hdg hf
        · exact va_runSN (n := a2) ⟨hx, hb, hml, hown, hts⟩ hM ⟨va_cnB a2 hts (mG_ws hy) rfl rfl rfl (hNw.1 _ _ _ _ q) (hts _ (mGw_in q1 rfl)) hd hR, hts _ (mGw_in (q2 k3) rfl), trivial⟩ hps rfl (by rw [List.length_map]; omega) (by rw [← hnl]; exact hl.1) rfl (lv_room (by rw [mCat_eq, mCat_tv]; exact hc2)) hdg hf
      rw [hast, List.map_append, List.map_reverse]
      refine mCall hrun hI.2.2 (fun H1 locs1 hI1 => ?_)
      have := kk H1 locs1 hI1
      rw [List.map_append] at this
      cases v <;> exact this
end S7
end
section
/-! a run of the small machine: its definition, and that the machine does it -/
abbrev mCal : Type := Nat → List Value → mH → Option Value → mH → Nat → Nat → Prop
/-- where a call's values lie -/
def mFlat (as : List Value) : mO := match as with
  | [] => []
  | v :: r => bif Nat.beq v.category 2 then some v :: none :: mFlat r else some v :: mFlat r
def mEnt (n : Nat) (as : List Value) : mO := mFlat as ++ List.replicate (n - (mFlat as).length) none
/-- fewer locals are known -/
def mLe (a b : mO) : Prop := match a, b with
  | [], [] => True
  | x :: a', y :: b' => (x = none ∨ x = y) ∧ mLe a' b'
  | _, _ => False
def mRunN (C : mCal) (ro : List (List Int32)) (rk : Nat) (tab : List (Option mI)) : Nat → Nat → mO → List Value → mH → Option Value → mH → Nat → Nat → Prop
  | 0 => fun _ _ _ _ _ _ _ _ => False
  | n + 1 => fun pc lo1 st h v h' nc ns => ∃ (i : mI) (lo : mO), tab[pc]? = some (some i) ∧ mLe lo lo1 ∧ (match mStep ro rk i pc lo st h with
    | none => False
    | some (.inl (pc2, lo2, st2, h2, dc, ds)) => ∃ nc2 ns2, nc = dc + nc2 ∧ ns = ds + ns2 ∧ mRunN C ro rk tab n pc2 lo2 st2 h2 v h' nc2 ns2
    | some (.inr (.inl w)) => v = w ∧ h' = h ∧ nc = 0 ∧ ns = 0
    | some (.inr (.inr (y, as, r))) => ∃ w h1 c1 s1 nc2 ns2, C y as h w h1 c1 s1 ∧ nc = c1 + nc2 ∧ ns = s1 + ns2 ∧ mRunN C ro rk tab n (pc + 3) lo (w.toList ++ r) h1 v h' nc2 ns2)
def mBig (ro : List (List Int32)) : Nat → mCal
  | 0 => fun _ _ _ _ _ _ _ => False
  | d + 1 => fun y as h v h' nc ns => y < 264 ∧ (mFlat as).length ≤ (mMeth y).2.2.1 ∧ ∃ n, mRunN (mBig ro d) ro (mMeth y).2.2.2.2.2.1 (mTab y) n 0 (mEnt (mMeth y).2.2.1 as) [] h v h' nc ns
theorem mLe_len : ∀ (a b : mO), mLe a b → a.length = b.length := by
  intro a
  induction a with
  | nil => intro b h; cases b with
    | nil => rfl
    | cons y b => exact h.elim
  | cons x a ih => intro b h; cases b with
    | nil => exact h.elim
    | cons y b => simp only [List.length_cons]; rw [ih b h.2]
theorem mLe_load : ∀ (a b : mO), mLe a b → ∀ (i : Nat) (v : Value), mLoad a i = some v → mLoad b i = some v := by
  intro a
  induction a with
  | nil => intro b h i v hv; exact absurd (mLoad_lt hv) (by simp)
  | cons x a ih => intro b h; cases b with
    | nil => exact h.elim
    | cons y b =>
      intro i v hv
      have hv := mLoad_get hv
      cases i with
      | zero =>
        simp only [List.getElem?_cons_zero, Option.some.injEq] at hv
        rcases h.1 with e | e
        · rw [e] at hv; cases hv
        · exact mLoad_of (by rw [List.getElem?_cons_zero, ← e, hv])
      | succ i =>
        simp only [List.getElem?_cons_succ] at hv
        exact mLoad_of (by rw [List.getElem?_cons_succ]; exact mLoad_get (ih b h.2 i v (mLoad_of hv)))
theorem mLe_refl : ∀ a : mO, mLe a a := by
  intro a
  induction a with
  | nil => trivial
  | cons x a ih => exact ⟨Or.inr rfl, ih⟩
theorem mLe_trans : ∀ (a b c : mO), mLe a b → mLe b c → mLe a c := by
  intro a
  induction a with
  | nil => intro b c h g; cases b with
    | nil => exact g
    | cons y b => exact h.elim
  | cons x a ih => intro b c h g; cases b with
    | nil => exact h.elim
    | cons y b => cases c with
      | nil => exact g.elim
      | cons w c =>
        refine ⟨?_, ih b c h.2 g.2⟩
        rcases h.1 with e | e
        · exact Or.inl e
        · rw [e]; exact g.1
theorem mStep1_len {ro : List (List Int32)} {i : mI} {pc : Nat} {lo : mO} {st : List Value} {h : mH} {x : mR} (hs : mStep1 ro i pc lo st h = some x) : ∃ pc2 lo2 st2, x = .inl (pc2, lo2, st2, h, 0, 0) := by
  have go : ∀ {pc : Nat} {lo : mO} {st : List Value}, mGo pc lo st h = some x → ∃ pc2 lo2 st2, x = .inl (pc2, lo2, st2, h, 0, 0) := fun q => ⟨_, _, _, mGo_inv q⟩
  obtain ⟨ins, len, a1, a2, a3, v32, v64, sw⟩ := i
  cases ins <;> simp only [mStep1, mI2, mL2, mLI, Bool.cond_eq_ite] at hs <;> (repeat' split at hs) <;> first | exact go hs | cases hs
theorem mStep2_len {ro : List (List Int32)} {rk : Nat} {i : mI} {pc : Nat} {lo : mO} {st : List Value} {h : mH} {pc2 : Nat} {lo2 : mO} {st2 : List Value} {h2 : mH} {dc ds : Nat} (hs : mStep2 ro rk i pc lo st h = some (.inl (pc2, lo2, st2, h2, dc, ds))) : h2.length = h.length + dc := by
  have go : ∀ {pc : Nat} {lo : mO} {st : List Value} {h3 : mH}, h3.length = h.length → mGo pc lo st h3 = some (.inl (pc2, lo2, st2, h2, dc, ds)) → h2.length = h.length + dc := fun e q => by
    have := mGo_inv q
    simp only [Sum.inl.injEq, Prod.mk.injEq] at this
    obtain ⟨-, -, -, rfl, rfl, -⟩ := this
    exact e
  obtain ⟨ins, len, a1, a2, a3, v32, v64, sw⟩ := i
  cases ins <;> simp only [mStep2, Bool.cond_eq_ite] at hs <;> (repeat' split at hs) <;> first
    | exact go rfl hs
    | exact go (List.length_set ..) hs
    | (simp only [Option.some.injEq, Sum.inl.injEq, Prod.mk.injEq] at hs
       obtain ⟨-, -, -, rfl, rfl, -⟩ := hs
       simp [Nat.add_comm]
       done)
    | cases hs
theorem mRunN_len {C : mCal} {ro : List (List Int32)} {rk : Nat} {tab : List (Option mI)} (hC : ∀ y as h w h1 c1 s1, C y as h w h1 c1 s1 → h1.length = h.length + c1) : ∀ (n pc : Nat) (lo : mO) (st : List Value) (h : mH) (v : Option Value) (h' : mH) (nc ns : Nat), mRunN C ro rk tab n pc lo st h v h' nc ns → h'.length = h.length + nc := by
  intro n
  induction n with
  | zero => intro pc lo st h v h' nc ns q; exact q.elim
  | succ n ih =>
    intro pc lo1 st h v h' nc ns q
    obtain ⟨i, lo, hi, -, q⟩ := q
    split at q
    · exact q.elim
    · rename_i pc2 lo2 st2 h2 dc ds hs
      obtain ⟨nc2, ns2, rfl, rfl, q⟩ := q
      have e := ih _ _ _ _ _ _ _ _ q
      unfold mStep at hs
      cases hk : mKind i.1 with
      | true =>
        rw [hk] at hs
        simp only [cond_true] at hs
        obtain ⟨a, b, c, hx⟩ := mStep1_len hs
        simp only [Sum.inl.injEq, Prod.mk.injEq] at hx
        obtain ⟨-, -, -, rfl, rfl, rfl⟩ := hx
        omega
      | false =>
        rw [hk] at hs
        simp only [cond_false] at hs
        have := mStep2_len hs
        omega
    · obtain ⟨rfl, rfl, rfl, rfl⟩ := q
      rfl
    · obtain ⟨w, h1, c1, s1, nc2, ns2, hc, rfl, rfl, q⟩ := q
      have e := ih _ _ _ _ _ _ _ _ q
      have e1 := hC _ _ _ _ _ _ _ hc
      omega
theorem mBig_len {ro : List (List Int32)} : ∀ (d y : Nat) (as : List Value) (h : mH) (w : Option Value) (h1 : mH) (c1 s1 : Nat), mBig ro d y as h w h1 c1 s1 → h1.length = h.length + c1 := by
  intro d
  induction d with
  | zero => intro y as h w h1 c1 s1 q; exact q.elim
  | succ d ih =>
    intro y as h w h1 c1 s1 q
    obtain ⟨-, -, n, q⟩ := q
    exact mRunN_len ih n _ _ _ _ _ _ _ _ q
section S8
variable {p : Program} {l : Launch} {e : Env} {R : Room} {s : State} {m : MethodId} {args : Array Value} {below : List Frame} {meth : Method} {c : Code} {H : Heap} {locs : List Loc} {cells slots : Nat} {Q : State → Prop}
variable {cc : ByteArray} {nL : Nat} {own : Nat} {G : va_G} {cy : Nat → ClassId} {z : Nat} {sa : Nat → Nat} {ro : List (List Int32)} {pc len a1 a2 a3 : Nat} {v32 : Int32} {v64 : Int64} {sw : List (Int32 × Nat)} {lo : mO} {st : List Value} {h : mH} {ls : Array Slot} {rk : Nat} {ini : Bool} {ins : Instr}
set_option maxHeartbeats 4000000 in
theorem sim2 (C0 : mCx p s m args c cc nL (mOwn own) G cy z sa ro) (hI : mInv G cy z sa s h H locs) (hl : mLv (mAd z sa) lo ls) (hnl : lo.length = nL) (hNw : mNw s) (hsz : H.size = z + h.length) (hini : ini = true → meth.name = "<init>") (hR : 1 ≤ R.frames ∧ 200 ≤ R.locals) {x : mN} (hb1 : h.length + x.2.2.2.2.1 ≤ mBase) (hb2 : cells + x.2.2.2.2.1 ≤ R.cells ∧ slots + x.2.2.2.2.2 ≤ R.slots) (hdg : decode cc pc = .ok (ins, len)) (hlen : mSwi ins = true ∨ len = mLen ins) (hok : mOk own ini pc (ins, len, a1, a2, a3, v32, v64, sw) = true)
    (hs : mStep2 ro rk (ins, len, a1, a2, a3, v32, v64, sw) pc lo st h = some (.inl x)) (K : mKh p l e R s m args below meth c cells slots Q G cy z sa (.inl x)) : W p l e R s m args below meth c H locs cells slots Q (F0 m pc ls (st.map (mTv (mAd z sa)))) := by
  cases ins with
  | iaload =>
    obtain rfl : len = 1 := hlen.resolve_left Bool.false_ne_true
    exact sim_iaload C0 hI hl hdg hs K
  | baload =>
    obtain rfl : len = 1 := hlen.resolve_left Bool.false_ne_true
    exact sim_baload C0 hI hl hdg hs K
  | laload =>
    obtain rfl : len = 1 := hlen.resolve_left Bool.false_ne_true
    exact sim_laload C0 hI hl hdg hs K
  | aaload =>
    obtain rfl : len = 1 := hlen.resolve_left Bool.false_ne_true
    exact sim_aaload C0 hI hl hdg hs K
  | iastore =>
    obtain rfl : len = 1 := hlen.resolve_left Bool.false_ne_true
    exact sim_iastore C0 hI hl hdg hs K
  | bastore =>
    obtain rfl : len = 1 := hlen.resolve_left Bool.false_ne_true
    exact sim_bastore C0 hI hl hdg hs K
  | lastore =>
    obtain rfl : len = 1 := hlen.resolve_left Bool.false_ne_true
    exact sim_lastore C0 hI hl hdg hs K
  | arraylength =>
    obtain rfl : len = 1 := hlen.resolve_left Bool.false_ne_true
    exact sim_arraylength C0 hI hl hdg hs K
  | putfield w =>
    obtain rfl : len = 3 := hlen.resolve_left Bool.false_ne_true
    have hok2 : ((mFL.any fun e => Nat.beq e.1 own && Nat.beq e.2.1 w && Nat.beq e.2.2.1 a1 && Nat.beq e.2.2.2.1 a2) && decide (mFk (mT a1 a2).2.2.1 = some a3) && (!(mT a1 a2).2.2.2 || (ini && decide ((mT a1 a2).1 = mOwn own)))) = true := hok
    simp only [Bool.and_eq_true, Bool.or_eq_true, Bool.not_eq_true', decide_eq_true_eq] at hok2
    obtain ⟨⟨k1, k2⟩, k3⟩ := hok2
    have k1' : (mFL.any fun e => Nat.beq e.1 own && Nat.beq e.2.1 w && Nat.beq e.2.2.1 a1 && Nat.beq e.2.2.2.1 a2) = true := by simpa using k1
    exact sim_putfield C0 hI hl hdg (mFL_use k1') k2 (fun hf => by
      rcases k3 with q | q
      · rw [hf] at q; cases q
      · exact ⟨hini q.1, q.2⟩) hs K
  | new w =>
    obtain rfl : len = 3 := hlen.resolve_left Bool.false_ne_true
    have hok2 : ((mNL.any fun e => Nat.beq e.1 own && Nat.beq e.2.1 w && Nat.beq e.2.2.1 a1) && Nat.beq a2 (mNf a1)) = true := hok
    rw [Bool.and_eq_true] at hok2
    obtain ⟨k1, k2⟩ := hok2
    have k2 := Nat.eq_of_beq_eq_true k2
    obtain ⟨k3, k4⟩ := mNL_use k1
    have hx := hs
    simp only [mStep2, Option.some.injEq, Sum.inl.injEq] at hx
    rw [← hx] at hb1 hb2
    exact sim_new C0 hI hl hdg (by rw [k2]; exact k3) k4 k2 hsz (by simp only at hb1; omega) hb2 hs K
  | newarray t =>
    obtain rfl : len = 2 := hlen.resolve_left Bool.false_ne_true
    have hok2 : (Nat.beq (mAk t) a1 && Nat.ble a1 3) = true := hok
    rw [Bool.and_eq_true] at hok2
    have h0 := hs
    simp only [mStep2] at h0
    have h1 : x.2.2.2.2.1 = 1 := by
      split at h0
      · split at h0
        · cases h0
        · simp only [Option.some.injEq, Sum.inl.injEq] at h0
          rw [← h0]
      · cases h0
    rw [h1] at hb1 hb2
    exact sim_newarray C0 hI hl hdg (Nat.eq_of_beq_eq_true hok2.1) (Nat.le_of_ble_eq_true hok2.2) hsz (by omega) (fun N hN => by cases hN; exact hb2) hs K
  | multianewarray w dd =>
    obtain rfl : len = 4 := hlen.resolve_left Bool.false_ne_true
    have hok2 : ((mAL.any fun e => Nat.beq e.1 own && Nat.beq e.2.1 w) && Nat.beq dd 2) = true := hok
    rw [Bool.and_eq_true] at hok2
    obtain rfl := Nat.eq_of_beq_eq_true hok2.2
    exact sim_mna C0 hI hl hdg (mAL_use hok2.1) hNw.2 hsz (fun N hN => by cases hN; exact hb1) (fun N hN => by cases hN; exact hb2) hs K
  | invokespecial w =>
    obtain rfl : len = 3 := hlen.resolve_left Bool.false_ne_true
    cases h3 : Nat.beq a3 1 with
    | true =>
      have hok2 : (bif Nat.beq a3 1 then (mOL.any fun e => Nat.beq e.1 own && Nat.beq e.2.1 w) else (mML.any fun e => Nat.beq e.1 own && Nat.beq e.2.1 w && Nat.beq e.2.2.1 a1) && Nat.beq (mMeth a1).2.2.2.2.2.2.1 a2 && !(mMeth a1).2.2.2.2.2.2.2.2 && decide ((mMeth a1).1.name = "<init>") && decide ((mMeth a1).2.2.2.1 = none)) = true := hok
      rw [h3] at hok2
      exact sim_objInit C0 hI hl hnl hdg (mOL_use hok2) hR (Nat.eq_of_beq_eq_true h3) hs K
    | false =>
      simp only [mStep2] at hs
      rw [h3] at hs
      simp only [cond_false] at hs
      simp only [Bool.cond_eq_ite] at hs
      split at hs
      · split at hs <;> cases hs
      · cases hs
  | invokestatic w =>
    obtain rfl : len = 3 := hlen.resolve_left Bool.false_ne_true
    cases h3 : Nat.beq a3 1 with
    | true =>
      have hok2 : (bif Nat.beq a3 1 then (mPL.any fun e => Nat.beq e.1 own && Nat.beq e.2.1 w) else (mML.any fun e => Nat.beq e.1 own && Nat.beq e.2.1 w && Nat.beq e.2.2.1 a1) && Nat.beq (mMeth a1).2.2.2.2.2.2.1 a2 && (mMeth a1).2.2.2.2.2.2.2.2) = true := hok
      rw [h3] at hok2
      exact sim_copy C0 hI hl hnl hdg (mPL_use hok2) hR (Nat.eq_of_beq_eq_true h3) hs K
    | false =>
      simp only [mStep2] at hs
      rw [h3] at hs
      simp only [cond_false] at hs
      simp only [Bool.cond_eq_ite] at hs
      split at hs <;> cases hs
  | invokevirtual w =>
    simp only [mStep2, Bool.cond_eq_ite] at hs
    split at hs <;> cases hs
  | ireturn =>
    simp only [mStep2] at hs
    split at hs
    · cases hs
    · split at hs <;> cases hs
    · cases hs
  | lreturn =>
    simp only [mStep2] at hs
    split at hs <;> cases hs
  | return_ =>
    simp only [mStep2] at hs
    split at hs <;> cases hs
  | aastore => cases hs
  | aconst_null => cases hs
  | aload _ => cases hs
  | aload_n _ => cases hs
  | anewarray _ => cases hs
  | areturn => cases hs
  | astore _ => cases hs
  | astore_n _ => cases hs
  | athrow => cases hs
  | bipush _ => cases hs
  | caload => cases hs
  | castore => cases hs
  | checkcast _ => cases hs
  | d2f => cases hs
  | d2i => cases hs
  | d2l => cases hs
  | dadd => cases hs
  | daload => cases hs
  | dastore => cases hs
  | dcmp _ => cases hs
  | dconst _ => cases hs
  | ddiv => cases hs
  | dload _ => cases hs
  | dload_n _ => cases hs
  | dmul => cases hs
  | dneg => cases hs
  | drem => cases hs
  | dreturn => cases hs
  | dstore _ => cases hs
  | dstore_n _ => cases hs
  | dsub => cases hs
  | dup => cases hs
  | dup_x1 => cases hs
  | dup_x2 => cases hs
  | dup2 => cases hs
  | dup2_x1 => cases hs
  | dup2_x2 => cases hs
  | f2d => cases hs
  | f2i => cases hs
  | f2l => cases hs
  | fadd => cases hs
  | faload => cases hs
  | fastore => cases hs
  | fcmp _ => cases hs
  | fconst _ => cases hs
  | fdiv => cases hs
  | fload _ => cases hs
  | fload_n _ => cases hs
  | fmul => cases hs
  | fneg => cases hs
  | frem => cases hs
  | freturn => cases hs
  | fstore _ => cases hs
  | fstore_n _ => cases hs
  | fsub => cases hs
  | getfield _ => cases hs
  | getstatic _ => cases hs
  | goto _ => cases hs
  | goto_w _ => cases hs
  | i2b => cases hs
  | i2c => cases hs
  | i2d => cases hs
  | i2f => cases hs
  | i2l => cases hs
  | i2s => cases hs
  | iadd => cases hs
  | iand => cases hs
  | iconst _ => cases hs
  | idiv => cases hs
  | if_acmp _ _ => cases hs
  | if_icmp _ _ => cases hs
  | ifCond _ _ => cases hs
  | ifnonnull _ => cases hs
  | ifnull _ => cases hs
  | iinc _ _ => cases hs
  | iload _ => cases hs
  | iload_n _ => cases hs
  | imul => cases hs
  | ineg => cases hs
  | instanceof _ => cases hs
  | invokedynamic _ => cases hs
  | invokeinterface _ _ => cases hs
  | ior => cases hs
  | irem => cases hs
  | ishl => cases hs
  | ishr => cases hs
  | istore _ => cases hs
  | istore_n _ => cases hs
  | isub => cases hs
  | iushr => cases hs
  | ixor => cases hs
  | jsr _ => cases hs
  | jsr_w _ => cases hs
  | l2d => cases hs
  | l2f => cases hs
  | l2i => cases hs
  | ladd => cases hs
  | land => cases hs
  | lcmp => cases hs
  | lconst _ => cases hs
  | ldc _ => cases hs
  | ldc_w _ => cases hs
  | ldc2_w _ => cases hs
  | ldiv => cases hs
  | lload _ => cases hs
  | lload_n _ => cases hs
  | lmul => cases hs
  | lneg => cases hs
  | lookupswitch _ _ => cases hs
  | lor => cases hs
  | lrem => cases hs
  | lshl => cases hs
  | lshr => cases hs
  | lstore _ => cases hs
  | lstore_n _ => cases hs
  | lsub => cases hs
  | lushr => cases hs
  | lxor => cases hs
  | monitorenter => cases hs
  | monitorexit => cases hs
  | nop => cases hs
  | pop => cases hs
  | pop2 => cases hs
  | putstatic _ => cases hs
  | ret _ => cases hs
  | saload => cases hs
  | sastore => cases hs
  | sipush _ => cases hs
  | swap => cases hs
  | tableswitch _ _ _ _ => cases hs
end S8
end
section
/-! THE BRIDGE: what the small machine does from a method's start to its end, the machine does (mBig_met) -/
theorem mStep1_lo {ro : List (List Int32)} {i : mI} {pc : Nat} {lo : mO} {st : List Value} {h : mH} {pc2 : Nat} {lo2 : mO} {st2 : List Value} {h2 : mH} {dc ds : Nat} (hs : mStep1 ro i pc lo st h = some (.inl (pc2, lo2, st2, h2, dc, ds))) : lo2.length = lo.length := by
  have go : ∀ {pc : Nat} {lo3 : mO} {st : List Value}, lo3.length = lo.length → mGo pc lo3 st h = some (.inl (pc2, lo2, st2, h2, dc, ds)) → lo2.length = lo.length := fun e q => by
    have := mGo_inv q
    simp only [Sum.inl.injEq, Prod.mk.injEq] at this
    obtain ⟨-, rfl, -⟩ := this
    exact e
  obtain ⟨ins, len, a1, a2, a3, v32, v64, sw⟩ := i
  cases ins <;> simp only [mStep1, mI2, mL2, mLI, Bool.cond_eq_ite] at hs <;> (repeat' split at hs) <;> first | exact go rfl hs | exact go (mSt1_len ..) hs | exact go (mSt2_len ..) hs | cases hs
theorem mStep2_lo {ro : List (List Int32)} {rk : Nat} {i : mI} {pc : Nat} {lo : mO} {st : List Value} {h : mH} {pc2 : Nat} {lo2 : mO} {st2 : List Value} {h2 : mH} {dc ds : Nat} (hs : mStep2 ro rk i pc lo st h = some (.inl (pc2, lo2, st2, h2, dc, ds))) : lo2 = lo := by
  have go : ∀ {pc : Nat} {st : List Value} {h3 : mH}, mGo pc lo st h3 = some (.inl (pc2, lo2, st2, h2, dc, ds)) → lo2 = lo := fun q => by
    have := mGo_inv q
    simp only [Sum.inl.injEq, Prod.mk.injEq] at this
    exact this.2.1
  obtain ⟨ins, len, a1, a2, a3, v32, v64, sw⟩ := i
  cases ins <;> simp only [mStep2, Bool.cond_eq_ite] at hs <;> (repeat' split at hs) <;> first
    | exact go hs
    | (simp only [Option.some.injEq, Sum.inl.injEq, Prod.mk.injEq] at hs
       exact hs.2.1.symm)
    | cases hs
theorem mStep2_ret {ro : List (List Int32)} {rk : Nat} {ins : Instr} {len a1 a2 a3 : Nat} {v32 : Int32} {v64 : Int64} {sw : List (Int32 × Nat)} {pc : Nat} {lo : mO} {st : List Value} {h : mH} {w : Option Value} (hs : mStep2 ro rk (ins, len, a1, a2, a3, v32, v64, sw) pc lo st h = some (.inr (.inl w))) : ins = .ireturn ∨ ins = .lreturn ∨ ins = .return_ := by
  have go : ∀ {pc : Nat} {st : List Value} {h3 : mH}, mGo pc lo st h3 = some (.inr (.inl w)) → ins = .ireturn ∨ ins = .lreturn ∨ ins = .return_ := fun q => by
    have := mGo_inv q
    cases this
  cases ins <;> simp only [mStep2, Bool.cond_eq_ite] at hs <;> first
    | exact Or.inl rfl
    | exact Or.inr (Or.inl rfl)
    | exact Or.inr (Or.inr rfl)
    | ((repeat' split at hs) <;> first | exact go hs | (cases hs; done))
theorem mStep2_call {ro : List (List Int32)} {rk : Nat} {ins : Instr} {len a1 a2 a3 : Nat} {v32 : Int32} {v64 : Int64} {sw : List (Int32 × Nat)} {pc : Nat} {lo : mO} {st : List Value} {h : mH} {y : Nat} {as r : List Value} (hs : mStep2 ro rk (ins, len, a1, a2, a3, v32, v64, sw) pc lo st h = some (.inr (.inr (y, as, r)))) : (∃ w, ins = .invokevirtual w) ∨ (∃ w, ins = .invokespecial w) ∨ (∃ w, ins = .invokestatic w) := by
  have go : ∀ {pc : Nat} {st : List Value} {h3 : mH}, mGo pc lo st h3 = some (.inr (.inr (y, as, r))) → (∃ w, ins = .invokevirtual w) ∨ (∃ w, ins = .invokespecial w) ∨ (∃ w, ins = .invokestatic w) := fun q => by
    have := mGo_inv q
    cases this
  cases ins <;> simp only [mStep2, Bool.cond_eq_ite] at hs <;> first
    | exact Or.inl ⟨_, rfl⟩
    | exact Or.inr (Or.inl ⟨_, rfl⟩)
    | exact Or.inr (Or.inr ⟨_, rfl⟩)
    | ((repeat' split at hs) <;> first | exact go hs | (cases hs; done))
theorem mRunN_sim {l : Launch} {p : Program} {e : Env} {s : State} {m : MethodId} {args : Array Value} {below : List Frame} {meth : Method} {c : Code} {cc : ByteArray} {nL own : Nat} {G : va_G} {cy : Nat → ClassId} {z : Nat} {sa : Nat → Nat} {ro : List (List Int32)} {rk : Nat} {ini : Bool} {tab : List (Option mI)} {C : mCal} {d TC TS : Nat}
    (hC : ∀ y as h w h1 c1 s1, C y as h w h1 c1 s1 → y < 264 ∧ h1.length = h.length + c1 ∧ (h.length + c1 ≤ mBase → mMet l G cy z sa ro d y as h w h1 c1 s1))
    (C0 : mCx p s m args c cc nL (mOwn own) G cy z sa ro) (hchk : mChk own ini cc 0 tab = true) (hlenT : ∀ (k : Nat) (i : mI), tab[k]? = some (some i) → mSwi i.1 = true ∨ i.2.1 = mLen i.1) (hNw : mNw s) (hini : ini = true → meth.name = "<init>")
    (hr : meth.sig.returnType = (match rk with | 0 => none | 1 => some .int | 2 => some .boolean | _ => some .long)) (hlk : meth.locks = false) :
    ∀ (n pc : Nat) (lo : mO) (st : List Value) (h : mH) (v : Option Value) (h' : mH) (nc ns : Nat), mRunN C ro rk tab n pc lo st h v h' nc ns → ∀ (H : Heap) (locs : List Loc) (cells slots : Nat) (ls : Array Slot), mInv G cy z sa s h H locs → mLv (mAd z sa) lo ls → lo.length = nL → s.heap.size + cells = z + h.length → h.length + nc ≤ mBase → cells + nc = TC → slots + ns = TS →
      W p l e (mRm (d + 1) TC TS) s m args below meth c H locs cells slots (mEnd below args s G cy z sa v h' TC TS) (F0 m pc ls (st.map (mTv (mAd z sa)))) := by
  have hz := C0.2.2.2.2.2.2.2
  have hRR : 1 ≤ (mRm (d + 1) TC TS).frames ∧ 200 ≤ (mRm (d + 1) TC TS).locals := ⟨by show 1 ≤ d + 1 + 1; omega, by show 200 ≤ 32 * (d + 1) + 200; omega⟩
  intro n
  induction n with
  | zero => intro pc lo st h v h' nc ns q; exact q.elim
  | succ n ih =>
    intro pc lo1 st h v h' nc ns q H locs cells slots ls hI hl1 hnl1 hszc hbase hTC hTS
    obtain ⟨i, lo, hi, hle0, q⟩ := q
    have hl : mLv (mAd z sa) lo ls := ⟨hl1.1.trans (mLe_len _ _ hle0).symm, hl1.2.1, fun i v hv => hl1.2.2 i v (mLe_load _ _ hle0 i v hv)⟩
    have hnl : lo.length = nL := (mLe_len _ _ hle0).trans hnl1
    obtain ⟨hdg, hok⟩ := mChk_get tab 0 pc i hchk hi
    rw [Nat.zero_add] at hdg hok
    have hln := hlenT pc i hi
    obtain ⟨ins, len, a1, a2, a3, v32, v64, sw⟩ := i
    refine W.sized (fun hle => ?_)
    have hsz := mSize hI hz hle hszc (by omega)
    split at q
    · exact q.elim
    · rename_i pc2 lo2 st2 h2 dc ds hs
      obtain ⟨nc2, ns2, e1, e2, q⟩ := q
      unfold mStep at hs
      cases hk : mKind ins with
      | true =>
        rw [hk] at hs
        simp only [cond_true] at hs
        have hlo := mStep1_lo hs
        refine sim1 C0 hI hl hdg hln hok hs ?_
        intro pc3 lo3 st3 hx ls3 hl3
        simp only [Sum.inl.injEq, Prod.mk.injEq] at hx
        obtain ⟨rfl, rfl, rfl, rfl, rfl, rfl⟩ := hx
        exact ih _ _ _ _ _ _ _ _ q H locs cells slots ls3 hI hl3 (by omega) hszc (by omega) (by omega) (by omega)
      | false =>
        rw [hk] at hs
        simp only [cond_false] at hs
        have hlo := mStep2_lo hs
        have hln2 := mStep2_len hs
        refine sim2 C0 hI hl hnl hNw hsz hini hRR (x := (pc2, lo2, st2, h2, dc, ds)) (by show h.length + dc ≤ mBase; omega) ⟨by show cells + dc ≤ TC; omega, by show slots + ds ≤ TS; omega⟩ hdg hln hok hs ?_
        intro pc3 lo3 st3 h3 dc3 ds3 hx H3 locs3 ls3 hI3 hl3
        simp only [Sum.inl.injEq, Prod.mk.injEq] at hx
        obtain ⟨rfl, rfl, rfl, rfl, rfl, rfl⟩ := hx
        exact ih _ _ _ _ _ _ _ _ q H3 locs3 (cells + dc) (slots + ds) ls3 hI3 hl3 (by rw [hlo]; exact hnl) (by omega) (by omega) (by omega) (by omega)
    · rename_i w hs
      obtain ⟨rfl, rfl, rfl, rfl⟩ := q
      obtain rfl : cells = TC := by omega
      obtain rfl : slots = TS := by omega
      unfold mStep at hs
      cases hk : mKind ins with
      | true =>
        rw [hk] at hs
        simp only [cond_true] at hs
        obtain ⟨_, _, _, hx⟩ := mStep1_len hs
        cases hx
      | false =>
        rw [hk] at hs
        simp only [cond_false] at hs
        rcases mStep2_ret hs with rfl | rfl | rfl
        · obtain rfl : len = 1 := hln.resolve_left Bool.false_ne_true
          exact sim_ireturn C0 hI hdg hr hlk hs
        · obtain rfl : len = 1 := hln.resolve_left Bool.false_ne_true
          exact sim_lreturn C0 hI hdg hr hlk hs
        · obtain rfl : len = 1 := hln.resolve_left Bool.false_ne_true
          exact sim_return C0 hI hdg hr hlk hs
    · rename_i y as r hs
      obtain ⟨w, h1, c1, s1, nc2, ns2, hc, e1, e2, q⟩ := q
      obtain ⟨hy, hh1, hM⟩ := hC _ _ _ _ _ _ _ hc
      have hM := hM (by omega)
      unfold mStep at hs
      cases hk : mKind ins with
      | true =>
        rw [hk] at hs
        simp only [cond_true] at hs
        obtain ⟨_, _, _, hx⟩ := mStep1_len hs
        cases hx
      | false =>
        rw [hk] at hs
        simp only [cond_false] at hs
        have kk : ∀ (H1 : Heap) (locs1 : List Loc), mInv G cy z sa s h1 H1 locs1 → W p l e (mRm (d + 1) TC TS) s m args below meth c H1 locs1 (cells + c1) (slots + s1) (mEnd below args s G cy z sa v h' TC TS) (F0 m (pc + 3) ls ((w.toList ++ r).map (mTv (mAd z sa)))) := fun H1 locs1 hI1 =>
          ih _ _ _ _ _ _ _ _ q H1 locs1 (cells + c1) (slots + s1) ls hI1 hl hnl (by omega) (by omega) (by omega) (by omega)
        have hf : cells + c1 ≤ TC ∧ slots + s1 ≤ TS := ⟨by omega, by omega⟩
        rcases mStep2_call hs with ⟨x, rfl⟩ | ⟨x, rfl⟩ | ⟨x, rfl⟩
        · obtain rfl : len = 3 := hln.resolve_left Bool.false_ne_true
          exact sim_inv l C0 hI hl hnl hNw hsz hdg hok hs hy hM hf kk
        · obtain rfl : len = 3 := hln.resolve_left Bool.false_ne_true
          exact sim_spec l C0 hI hl hnl hNw hsz hdg hok hs hy hM hf kk
        · obtain rfl : len = 3 := hln.resolve_left Bool.false_ne_true
          exact sim_stat l C0 hI hl hnl hNw hsz hdg hok hs hy hM hf kk
theorem mOfW {l : Launch} {y : MethodName} {ws ws' : List Jvm.Cond} {rm : Room} {Pc : Array Value → State → Prop} {Qc : Array Value → State → Outcome → State → Prop} {mc ms : Nat} {free : Addr → Prop} {cc : ByteArray} {maxL : Nat} {ret : Option FieldType}
    (hy : plainFor y = true) (hw : ws = Jvm.Cond.code y cc maxL ret :: ws')
    (body : ∀ p e s m args below meth c s₁, BodyLoose p l y (headSpec ws rm) cc maxL ret e s m args below meth c s₁ → c.maxLocals = maxL → Pc args s →
      W p l e (headSpec ws rm).room s m args below meth c s.heap [] 0 0 (MQ below Qc args s mc ms free) (entryFrame m args maxL)) : Met l y ws rm Pc Qc mc ms free := by
  refine MetFree.of_bodySF (code := cc) (maxLocals := maxL) (ret := ret) hy ?_ ?_
  · intro args s m h hn
    obtain ⟨meth, c, h1, h2, h3, h4, h5, h6, -, -⟩ := Cond.code_spec hn (atoms_spec (ws := ws) h _ (by rw [hw]; exact List.mem_cons_self))
    exact ⟨meth, c, h1, h2, h3, h4, h5, h6⟩
  · intro p e s m args below meth c s₁ B hml hP _
    have hh0 : s₁.heap = s.heap := by rw [B.state]; rfl
    obtain ⟨t, a1, o, b1, b2, b3⟩ := body p e s m args below meth c s₁ B hml hP s₁ hh0 (Stand.of_body B)
    exact ⟨t, o, a1, b1, b2, ⟨b3.1, b3.2⟩⟩
theorem mFlat_len (ad : Nat → Nat) (as : List Value) : (lg_sl (as.map (mTv ad))).length = (mFlat as).length := by
  induction as with
  | nil => rfl
  | cons v r ih =>
    unfold lg_sl at ih ⊢
    rw [List.map_cons, List.flatMap_cons, List.length_append, ih, mTv_cat]
    rw [show mFlat (v :: r) = bif Nat.beq v.category 2 then some v :: none :: mFlat r else some v :: mFlat r from rfl]
    cases hc : Nat.beq v.category 2 with
    | true => rw [if_pos (Nat.eq_of_beq_eq_true hc)]; simp; omega
    | false => rw [if_neg (fun q => by rw [q] at hc; cases hc)]; simp; omega
theorem mFlat_at (ad : Nat → Nat) (q : Nat) : ∀ (as : List Value) (k i : Nat) (v : Value), mLoad (mFlat as ++ List.replicate q none) i = some v → (k + i, mTv ad v) ∈ lv_args k (as.map (mTv ad)) := by
  intro as
  induction as with
  | nil =>
    intro k i v h
    have := mLoad_get h
    simp only [mFlat, List.nil_append, List.getElem?_replicate] at this
    split at this <;> simp at this
  | cons w r ih =>
    intro k i v h
    rw [List.map_cons]
    simp only [lv_args, mTv_cat]
    unfold mFlat at h
    cases hc : Nat.beq w.category 2 with
    | true =>
      rw [hc] at h
      rw [if_pos (Nat.eq_of_beq_eq_true hc)]
      have h := mLoad_get h
      cases i with
      | zero => simp at h; subst h; exact List.mem_cons_self
      | succ i =>
        cases i with
        | zero => simp at h
        | succ i =>
          simp only [cond_true, List.cons_append, List.getElem?_cons_succ] at h
          have := ih (k + 2) i v (mLoad_of h)
          rw [show k + (i + 1 + 1) = k + 2 + i by omega]
          exact List.mem_cons_of_mem _ this
    | false =>
      rw [hc] at h
      rw [if_neg (fun q => by rw [q] at hc; cases hc)]
      have h := mLoad_get h
      cases i with
      | zero => simp at h; subst h; exact List.mem_cons_self
      | succ i =>
        simp only [cond_false, List.cons_append, List.getElem?_cons_succ] at h
        have := ih (k + 1) i v (mLoad_of h)
        rw [show k + (i + 1) = k + 1 + i by omega]
        exact List.mem_cons_of_mem _ this
theorem mIni_use {y : Nat} (h : mIni y = true) : (mMeth y).1.name = "<init>" := by
  obtain ⟨k, hk, e⟩ := List.any_eq_true.mp h
  rw [← Nat.eq_of_beq_eq_true e]
  exact of_decide_eq_true (List.all_eq_true.mp mInis_ok k hk)
theorem mTab_len (y k : Nat) (i : mI) (h : (mTab y)[k]? = some (some i)) : mSwi i.1 = true ∨ i.2.1 = mLen i.1 := by
  unfold mTab at h
  cases ht : mTabs[y]? with
  | none => rw [ht] at h; simp at h
  | some t =>
    rw [ht] at h
    simp only [Option.getD_some] at h
    have h1 := List.all_eq_true.mp mLen_ok t (List.mem_of_getElem? ht)
    have h2 := List.all_eq_true.mp h1 (some i) (List.mem_of_getElem? h)
    simp only [Bool.or_eq_true] at h2
    rcases h2 with h2 | h2
    · exact Or.inl h2
    · exact Or.inr (Nat.eq_of_beq_eq_true h2)
theorem mBig_met {l : Launch} {G : va_G} {cy : Nat → ClassId} {z : Nat} {sa : Nat → Nat} {ro : List (List Int32)} : ∀ (d y : Nat) (as : List Value) (h : mH) (v : Option Value) (h' : mH) (nc ns : Nat), mBig ro d y as h v h' nc ns → h.length + nc ≤ mBase → mMet l G cy z sa ro d y as h v h' nc ns := by
  intro d
  induction d with
  | zero => intro y as h v h' nc ns q; exact q.elim
  | succ d ih =>
    intro y as h v h' nc ns q hbase
    obtain ⟨hy, hfl, n, q⟩ := q
    obtain ⟨q1, q2, q3, q4, q5, q6, q7, q8, q9, q10⟩ := mP_use hy
    unfold mMet
    refine mOfW q6 rfl ?_
    intro p e s m args below meth c s₁ B hml hv
    obtain ⟨rfl, hP, hD, hK, hro, hsz, hNw⟩ := hv
    have hts := atoms_spec B.pre
    have hown : s.vm.findClass (mMeth y).1.cls = some m.cls := findClass_of_methodNamed B.named
    have C0 : mCx p s m (as.map (mTv (mAd z sa))).toArray c (mMeth y).2.1 (mMeth y).2.2.1 (mOwn (mMeth y).2.2.2.2.1) G cy z sa ro :=
      ⟨B.exec, B.bytes, hml, by rw [q5]; exact hown, fun w hw => hts w (List.mem_cons_of_mem _ hw), hK, hro, by omega⟩
    have hle : (lg_sl (as.map (mTv (mAd z sa)))).length ≤ (mMeth y).2.2.1 := by rw [mFlat_len]; exact hfl
    have hl := lv_entry (as.map (mTv (mAd z sa))) hle
    rw [lg_entry_eq]
    have hel : (mEnt (mMeth y).2.2.1 as).length = (mMeth y).2.2.1 := by
      unfold mEnt
      rw [List.length_append, List.length_replicate]
      omega
    have hlv := mLv.of (ad := mAd z sa) (lo := mEnt (mMeth y).2.2.1 as) hl hel.symm (fun i v hv => by
      have := mFlat_at (mAd z sa) _ as 0 i v hv
      rwa [Nat.zero_add] at this)
    exact mRunN_sim (l := l) (C := mBig ro d) (fun y as h w h1 c1 s1 hc => ⟨by cases d with
        | zero => exact hc.elim
        | succ d => exact hc.1, mBig_len _ _ _ _ _ _ _ _ hc, fun hb => ih _ _ _ _ _ _ _ hc hb⟩) C0 (mTab_ok y (Nat.zero_le _) (by omega)) (mTab_len y) hNw (fun hi => by rw [(name_of_methodNamed B.named B.method).1]; exact mIni_use hi) (B.returns.trans q10) B.notSynchronized n 0 _ [] h v h' nc ns q s.heap [] 0 0 _ ⟨hP, hD, va_S.rf⟩ hlv hel (by omega) hbase (by omega) (by omega)
end
section
/-! the law's walk out of a run of the small machine -/
theorem mHasRoom {s : State} {pl : Platform} {r r' : Room} (h : s.hasRoom pl r = true) (h1 : r'.frames ≤ r.frames) (h2 : r'.cells ≤ r.cells) (h3 : r'.slots ≤ r.slots) (h4 : r'.locals ≤ r.locals) : s.hasRoom pl r' = true := by
  unfold State.hasRoom at h ⊢
  simp only [Bool.and_eq_true, decide_eq_true_eq] at h ⊢
  obtain ⟨⟨⟨⟨a, b1, b2, b3, b4, b5⟩, c⟩, d⟩, f⟩ := h
  exact ⟨⟨⟨⟨by omega, by omega, by omega, by omega, by omega, b5⟩, by omega⟩, by omega⟩, f⟩
theorem W.room {p : Program} {l : Launch} {e : Env} {R R' : Room} {s : State} {m : MethodId} {args : Array Value} {below : List Frame} {meth : Method} {c : Code} {H : Heap} {locs : List Loc} {cells slots : Nat} {Q : State → Prop} {g : JFrame} (h1 : R'.frames ≤ R.frames) (h2 : R'.cells ≤ R.cells) (h3 : R'.slots ≤ R.slots) (h4 : R'.locals ≤ R.locals) (k : W p l e R' s m args below meth c H locs cells slots Q g) : W p l e R s m args below meth c H locs cells slots Q g :=
  fun T hT X => k T hT { X with room := mHasRoom X.room h1 h2 h3 h4 }
theorem W.mono {p : Program} {l : Launch} {e : Env} {R : Room} {s : State} {m : MethodId} {args : Array Value} {below : List Frame} {meth : Method} {c : Code} {H : Heap} {locs : List Loc} {cells slots : Nat} {Q Q' : State → Prop} {g : JFrame} (h : ∀ t, Q t → Q' t) (k : W p l e R s m args below meth c H locs cells slots Q g) : W p l e R s m args below meth c H locs cells slots Q' g := fun T hT X => by
  obtain ⟨t, a, b⟩ := k T hT X
  exact ⟨t, a, h t b⟩
theorem mArrAt {s : State} {A : Array Value} {ty : FieldType} (h : (Jvm.Cond.arrayClass ty).before A s = true) : ∃ cA : ClassId, ArrOfT s cA ty ∧ s.vm.findClass ("[" ++ ty.toString) = some cA := by
  obtain ⟨c, k, comp, h1, h2, h3⟩ := Cond.arrayClass_spec h
  exact ⟨c, fun n z => ⟨fun k h => (by cases h), k, h2, comp, h3⟩, h1⟩
theorem mAo_gen2 {fc : Option Nat} {fi : Nat → Option Nat} {g : Nat → Option Bool} (h : ((fc.bind fun comp => (fi comp).bind fun c => g c) == some true) = true) : ∃ c, g c = some true := by
  cases hc : fc with
  | none => rw [hc] at h; simp at h
  | some comp =>
    rw [hc] at h
    simp only [Option.bind_some] at h
    cases hx : fi comp with
    | none => rw [hx] at h; simp at h
    | some c =>
      rw [hx] at h
      simp only [Option.bind_some] at h
      exact ⟨c, by simpa using h⟩
theorem mArrArr {s : State} (h : mAo s) : ∃ cA : ClassId, ArrOfT s cA (.array .int) ∧ s.vm.findClass ("[" ++ (FieldType.array .int).toString) = some cA := by
  unfold mAo Jvm.Cond.before Jvm.Cond.holds at h
  simp only [Jvm.Cond.value] at h
  obtain ⟨c, hg⟩ := mAo_gen2 h
  cases hk : s.vm.classes[c]? with
  | none => rw [hk] at hg; cases hg
  | some k =>
    rw [hk] at hg
    simp only [Option.map_some, Option.some.injEq] at hg
    split at hg
    · rename_i comp ty hkind
      simp only [Bool.and_eq_true, decide_eq_true_eq] at hg
      obtain ⟨rfl, h2⟩ := hg
      exact ⟨c, fun n z => ⟨fun k h => (by cases h), k, hk, comp, hkind⟩, h2⟩
    · cases hg
/-- the rows that nobody writes: the five of the classes, and the script -/
def mRoL (xs : List Int32) : List (List Int32) := mStat ++ [xs]
theorem mSt0_at {args : Array Value} {s : State} (hs : ∀ w ∈ flatC (Jvm.Cond.and given_1 narrow_1), w.before args s = true) (hts : ∀ w ∈ lw_tbl, w.before args s = true) : ∃ t : Nat, va_Z "ColdHolds$Hold" "LEAST_SET" "[I" (.ref t) (mA s.heap.size) s s.heap ∧ va_T .int t 4 (fun j => .int (([0, 0, 1, 0] : List Int32).getD j 0)) (mA s.heap.size) s s.heap := by
  have hA : ∀ a : Nat, a < s.heap.size → ¬ mA s.heap.size a := fun a h q => by have q : s.heap.size ≤ a := q; omega
  have harr : (Jvm.Cond.arrayOf (Jvm.Term.static "ColdHolds$Hold" "LEAST_SET" "[I") .int).before args s = true := hs _ (by decide +kernel)
  have hlen := va_eqt (hs (Jvm.Cond.eq (Jvm.Term.length (Jvm.Term.static "ColdHolds$Hold" "LEAST_SET" "[I")) (Jvm.Term.int (4 : Int32))) (by decide +kernel))
  have e0 := va_eqt (hs (Jvm.Cond.eq (Jvm.Term.elem (Jvm.Term.static "ColdHolds$Hold" "LEAST_SET" "[I") (Jvm.Term.int (0 : Int32))) (Jvm.Term.int (0 : Int32))) (by decide +kernel))
  have e1 := va_eqt (hs (Jvm.Cond.eq (Jvm.Term.elem (Jvm.Term.static "ColdHolds$Hold" "LEAST_SET" "[I") (Jvm.Term.int (1 : Int32))) (Jvm.Term.int (0 : Int32))) (by decide +kernel))
  have e2 := va_eqt (hs (Jvm.Cond.eq (Jvm.Term.elem (Jvm.Term.static "ColdHolds$Hold" "LEAST_SET" "[I") (Jvm.Term.int (2 : Int32))) (Jvm.Term.int (1 : Int32))) (by decide +kernel))
  have e3 := va_eqt (hs (Jvm.Cond.eq (Jvm.Term.elem (Jvm.Term.static "ColdHolds$Hold" "LEAST_SET" "[I") (Jvm.Term.int (3 : Int32))) (Jvm.Term.int (0 : Int32))) (by decide +kernel))
  obtain ⟨t, ht, hT⟩ := va_Tof (N := 4) (f := fun j => .int (([0, 0, 1, 0] : List Int32).getD j 0)) (A := mA s.heap.size) (by decide) harr hlen (fun j hj => by
    rcases (show j = 0 ∨ j = 1 ∨ j = 2 ∨ j = 3 by omega) with rfl | rfl | rfl | rfl
    · exact e0
    · exact e1
    · exact e2
    · exact e3) hA
  exact ⟨t, va_Zof (hts _ (mIs_mem (p := 518) (by decide +kernel))) (hts _ (mIs_mem (p := 65) (by decide +kernel))) ht hA, hT⟩
theorem mSt1_at {args : Array Value} {s : State} (hs : ∀ w ∈ flatC (Jvm.Cond.and given_1 narrow_1), w.before args s = true) (hts : ∀ w ∈ lw_tbl, w.before args s = true) : ∃ t : Nat, va_Z "ColdHolds$Hold" "MOST_SET" "[I" (.ref t) (mA s.heap.size) s s.heap ∧ va_T .int t 4 (fun j => .int (([20, 60, 9, 9999] : List Int32).getD j 0)) (mA s.heap.size) s s.heap := by
  have hA : ∀ a : Nat, a < s.heap.size → ¬ mA s.heap.size a := fun a h q => by have q : s.heap.size ≤ a := q; omega
  have harr : (Jvm.Cond.arrayOf (Jvm.Term.static "ColdHolds$Hold" "MOST_SET" "[I") .int).before args s = true := hs _ (by decide +kernel)
  have hlen := va_eqt (hs (Jvm.Cond.eq (Jvm.Term.length (Jvm.Term.static "ColdHolds$Hold" "MOST_SET" "[I")) (Jvm.Term.int (4 : Int32))) (by decide +kernel))
  have e0 := va_eqt (hs (Jvm.Cond.eq (Jvm.Term.elem (Jvm.Term.static "ColdHolds$Hold" "MOST_SET" "[I") (Jvm.Term.int (0 : Int32))) (Jvm.Term.int (20 : Int32))) (by decide +kernel))
  have e1 := va_eqt (hs (Jvm.Cond.eq (Jvm.Term.elem (Jvm.Term.static "ColdHolds$Hold" "MOST_SET" "[I") (Jvm.Term.int (1 : Int32))) (Jvm.Term.int (60 : Int32))) (by decide +kernel))
  have e2 := va_eqt (hs (Jvm.Cond.eq (Jvm.Term.elem (Jvm.Term.static "ColdHolds$Hold" "MOST_SET" "[I") (Jvm.Term.int (2 : Int32))) (Jvm.Term.int (9 : Int32))) (by decide +kernel))
  have e3 := va_eqt (hs (Jvm.Cond.eq (Jvm.Term.elem (Jvm.Term.static "ColdHolds$Hold" "MOST_SET" "[I") (Jvm.Term.int (3 : Int32))) (Jvm.Term.int (9999 : Int32))) (by decide +kernel))
  obtain ⟨t, ht, hT⟩ := va_Tof (N := 4) (f := fun j => .int (([20, 60, 9, 9999] : List Int32).getD j 0)) (A := mA s.heap.size) (by decide) harr hlen (fun j hj => by
    rcases (show j = 0 ∨ j = 1 ∨ j = 2 ∨ j = 3 by omega) with rfl | rfl | rfl | rfl
    · exact e0
    · exact e1
    · exact e2
    · exact e3) hA
  exact ⟨t, va_Zof (hts _ (mIs_mem (p := 520) (by decide +kernel))) (hts _ (mIs_mem (p := 65) (by decide +kernel))) ht hA, hT⟩
theorem mSt2_at {args : Array Value} {s : State} (hs : ∀ w ∈ flatC (Jvm.Cond.and given_1 narrow_1), w.before args s = true) (hts : ∀ w ∈ lw_tbl, w.before args s = true) : ∃ t : Nat, va_Z "ColdHolds$Market" "LEAST_SET" "[I" (.ref t) (mA s.heap.size) s s.heap ∧ va_T .int t 4 (fun j => .int (([0, 0, 0, 1] : List Int32).getD j 0)) (mA s.heap.size) s s.heap := by
  have hA : ∀ a : Nat, a < s.heap.size → ¬ mA s.heap.size a := fun a h q => by have q : s.heap.size ≤ a := q; omega
  have harr : (Jvm.Cond.arrayOf (Jvm.Term.static "ColdHolds$Market" "LEAST_SET" "[I") .int).before args s = true := hs _ (by decide +kernel)
  have hlen := va_eqt (hs (Jvm.Cond.eq (Jvm.Term.length (Jvm.Term.static "ColdHolds$Market" "LEAST_SET" "[I")) (Jvm.Term.int (4 : Int32))) (by decide +kernel))
  have e0 := va_eqt (hs (Jvm.Cond.eq (Jvm.Term.elem (Jvm.Term.static "ColdHolds$Market" "LEAST_SET" "[I") (Jvm.Term.int (0 : Int32))) (Jvm.Term.int (0 : Int32))) (by decide +kernel))
  have e1 := va_eqt (hs (Jvm.Cond.eq (Jvm.Term.elem (Jvm.Term.static "ColdHolds$Market" "LEAST_SET" "[I") (Jvm.Term.int (1 : Int32))) (Jvm.Term.int (0 : Int32))) (by decide +kernel))
  have e2 := va_eqt (hs (Jvm.Cond.eq (Jvm.Term.elem (Jvm.Term.static "ColdHolds$Market" "LEAST_SET" "[I") (Jvm.Term.int (2 : Int32))) (Jvm.Term.int (0 : Int32))) (by decide +kernel))
  have e3 := va_eqt (hs (Jvm.Cond.eq (Jvm.Term.elem (Jvm.Term.static "ColdHolds$Market" "LEAST_SET" "[I") (Jvm.Term.int (3 : Int32))) (Jvm.Term.int (1 : Int32))) (by decide +kernel))
  obtain ⟨t, ht, hT⟩ := va_Tof (N := 4) (f := fun j => .int (([0, 0, 0, 1] : List Int32).getD j 0)) (A := mA s.heap.size) (by decide) harr hlen (fun j hj => by
    rcases (show j = 0 ∨ j = 1 ∨ j = 2 ∨ j = 3 by omega) with rfl | rfl | rfl | rfl
    · exact e0
    · exact e1
    · exact e2
    · exact e3) hA
  exact ⟨t, va_Zof (hts _ (mIs_mem (p := 880) (by decide +kernel))) (hts _ (mIs_mem (p := 73) (by decide +kernel))) ht hA, hT⟩
theorem mSt3_at {args : Array Value} {s : State} (hs : ∀ w ∈ flatC (Jvm.Cond.and given_1 narrow_1), w.before args s = true) (hts : ∀ w ∈ lw_tbl, w.before args s = true) : ∃ t : Nat, va_Z "ColdHolds$Market" "MOST_SET" "[I" (.ref t) (mA s.heap.size) s s.heap ∧ va_T .int t 4 (fun j => .int (([999, 99, 6, 6] : List Int32).getD j 0)) (mA s.heap.size) s s.heap := by
  have hA : ∀ a : Nat, a < s.heap.size → ¬ mA s.heap.size a := fun a h q => by have q : s.heap.size ≤ a := q; omega
  have harr : (Jvm.Cond.arrayOf (Jvm.Term.static "ColdHolds$Market" "MOST_SET" "[I") .int).before args s = true := hs _ (by decide +kernel)
  have hlen := va_eqt (hs (Jvm.Cond.eq (Jvm.Term.length (Jvm.Term.static "ColdHolds$Market" "MOST_SET" "[I")) (Jvm.Term.int (4 : Int32))) (by decide +kernel))
  have e0 := va_eqt (hs (Jvm.Cond.eq (Jvm.Term.elem (Jvm.Term.static "ColdHolds$Market" "MOST_SET" "[I") (Jvm.Term.int (0 : Int32))) (Jvm.Term.int (999 : Int32))) (by decide +kernel))
  have e1 := va_eqt (hs (Jvm.Cond.eq (Jvm.Term.elem (Jvm.Term.static "ColdHolds$Market" "MOST_SET" "[I") (Jvm.Term.int (1 : Int32))) (Jvm.Term.int (99 : Int32))) (by decide +kernel))
  have e2 := va_eqt (hs (Jvm.Cond.eq (Jvm.Term.elem (Jvm.Term.static "ColdHolds$Market" "MOST_SET" "[I") (Jvm.Term.int (2 : Int32))) (Jvm.Term.int (6 : Int32))) (by decide +kernel))
  have e3 := va_eqt (hs (Jvm.Cond.eq (Jvm.Term.elem (Jvm.Term.static "ColdHolds$Market" "MOST_SET" "[I") (Jvm.Term.int (3 : Int32))) (Jvm.Term.int (6 : Int32))) (by decide +kernel))
  obtain ⟨t, ht, hT⟩ := va_Tof (N := 4) (f := fun j => .int (([999, 99, 6, 6] : List Int32).getD j 0)) (A := mA s.heap.size) (by decide) harr hlen (fun j hj => by
    rcases (show j = 0 ∨ j = 1 ∨ j = 2 ∨ j = 3 by omega) with rfl | rfl | rfl | rfl
    · exact e0
    · exact e1
    · exact e2
    · exact e3) hA
  exact ⟨t, va_Zof (hts _ (mIs_mem (p := 882) (by decide +kernel))) (hts _ (mIs_mem (p := 73) (by decide +kernel))) ht hA, hT⟩
theorem mSt4_at {args : Array Value} {s : State} (hs : ∀ w ∈ flatC (Jvm.Cond.and given_1 narrow_1), w.before args s = true) (hts : ∀ w ∈ lw_tbl, w.before args s = true) : ∃ t : Nat, va_Z "ColdHolds$Ring" "MOST_SET" "[I" (.ref t) (mA s.heap.size) s s.heap ∧ va_T .int t 4 (fun j => .int (([999, 99, 100, 999] : List Int32).getD j 0)) (mA s.heap.size) s s.heap := by
  have hA : ∀ a : Nat, a < s.heap.size → ¬ mA s.heap.size a := fun a h q => by have q : s.heap.size ≤ a := q; omega
  have harr : (Jvm.Cond.arrayOf (Jvm.Term.static "ColdHolds$Ring" "MOST_SET" "[I") .int).before args s = true := hs _ (by decide +kernel)
  have hlen := va_eqt (hs (Jvm.Cond.eq (Jvm.Term.length (Jvm.Term.static "ColdHolds$Ring" "MOST_SET" "[I")) (Jvm.Term.int (4 : Int32))) (by decide +kernel))
  have e0 := va_eqt (hs (Jvm.Cond.eq (Jvm.Term.elem (Jvm.Term.static "ColdHolds$Ring" "MOST_SET" "[I") (Jvm.Term.int (0 : Int32))) (Jvm.Term.int (999 : Int32))) (by decide +kernel))
  have e1 := va_eqt (hs (Jvm.Cond.eq (Jvm.Term.elem (Jvm.Term.static "ColdHolds$Ring" "MOST_SET" "[I") (Jvm.Term.int (1 : Int32))) (Jvm.Term.int (99 : Int32))) (by decide +kernel))
  have e2 := va_eqt (hs (Jvm.Cond.eq (Jvm.Term.elem (Jvm.Term.static "ColdHolds$Ring" "MOST_SET" "[I") (Jvm.Term.int (2 : Int32))) (Jvm.Term.int (100 : Int32))) (by decide +kernel))
  have e3 := va_eqt (hs (Jvm.Cond.eq (Jvm.Term.elem (Jvm.Term.static "ColdHolds$Ring" "MOST_SET" "[I") (Jvm.Term.int (3 : Int32))) (Jvm.Term.int (999 : Int32))) (by decide +kernel))
  obtain ⟨t, ht, hT⟩ := va_Tof (N := 4) (f := fun j => .int (([999, 99, 100, 999] : List Int32).getD j 0)) (A := mA s.heap.size) (by decide) harr hlen (fun j hj => by
    rcases (show j = 0 ∨ j = 1 ∨ j = 2 ∨ j = 3 by omega) with rfl | rfl | rfl | rfl
    · exact e0
    · exact e1
    · exact e2
    · exact e3) hA
  exact ⟨t, va_Zof (hts _ (mIs_mem (p := 988) (by decide +kernel))) (hts _ (mIs_mem (p := 75) (by decide +kernel))) ht hA, hT⟩
theorem mKnown {s : State} {A : Array Value} (hts : ∀ w ∈ lw_tbl, w.before A s = true) {ci : Nat} (h : ci < 13) : ∃ (cC : ClassId) (iS : Nat → Nat), u_Kn s (mCn ci) (mT ci) (mNf ci) cC iS := by
  have h3 := List.all_eq_true.mp mCp_ok ci (List.mem_range.mpr h)
  simp only [Bool.and_eq_true] at h3
  exact u_known (ws := mGw) (fun w hw => hts w (List.mem_filter.mp hw).1) (mCl_in h) (hts _ (mIs_mem h3.1))
theorem mCl_all {q : vw_C} {k : Nat} (h : vwCl[k]? = some q) : k < 13 ∧ q = (mCn k, mT k, mNf k) := by
  have hk : k < 13 := (List.getElem?_eq_some_iff.mp h).1
  exact ⟨hk, Option.some.inj (h.symm.trans (mCl_at hk))⟩
/-- from the law's entry: a run of the small machine gives the walk -/
theorem whole_of_run {p : Program} {e : Env} {s : State} {m : MethodId} {below : List Frame} {meth : Method} {c : Code} (l : Launch) {b L : Nat} {xs : Nat → Int32}
    (hx : p.tables.exec = Jvm.exec) (hb : c.code = code) (hr : meth.sig.returnType = ret) (hml : c.maxLocals = 4) (hown : s.vm.findClass RL = some m.cls) (hts : ∀ w ∈ lw_tbl, w.before #[Value.ref b] s = true) (hX : va_X b L xs s s.heap) (hbl : b < s.heap.size) (hlk : meth.locks = false) (hgv : (Jvm.Cond.and given_1 narrow_1).before #[Value.ref b] s = true)
    {d n : Nat} {h' : mH} {nc ns : Nat} (hd : d ≤ 2000) (hnc : nc ≤ 600000) (hns : ns ≤ 7302250)
    (hrun : mRunN (mBig (mRoL ((List.range L).map xs)) d) (mRoL ((List.range L).map xs)) 2 (mTab 264) n 0 (mEnt 4 [.ref (mBase + 5)]) [] [] (some (.int 1)) h' nc ns) :
    W p l e room_1 s m #[Value.ref b] below meth c s.heap [] 0 0 (fun t => ∃ o, t.status = .running ∧ Ended t below o ∧ o = .returned (some (.int 1)) ∧ Framed s o t [] 600000 7302250) (entryFrame m ([Value.ref b] : List Value).toArray 4) := by
  have hfl := flat_of_before _ hgv
  obtain ⟨t0, z0, T0⟩ := mSt0_at hfl hts
  obtain ⟨t1, z1, T1⟩ := mSt1_at hfl hts
  obtain ⟨t2, z2, T2⟩ := mSt2_at hfl hts
  obtain ⟨t3, z3, T3⟩ := mSt3_at hfl hts
  obtain ⟨t4, z4, T4⟩ := mSt4_at hfl hts
  obtain ⟨sa, hsa⟩ : ∃ sa : Nat → Nat, sa = fun i => match i with | 0 => t0 | 1 => t1 | 2 => t2 | 3 => t3 | 4 => t4 | _ => b := ⟨_, rfl⟩
  have hA : ∀ a : Nat, a < s.heap.size → ¬ mA s.heap.size a := fun a h q => by have q : s.heap.size ≤ a := q; omega
  have TX : va_T .int b ((List.range L).map xs).length (fun j => .int (((List.range L).map xs).getD j 0)) (mA s.heap.size) s s.heap := by
    obtain ⟨scr, k1, k2, k3, k4, k5⟩ := hX
    have hl : ((List.range L).map xs).length = L := by simp
    refine ⟨scr, k1, k2, k3, by rw [hl, k4]; exact Nat.le_refl _, by rw [hl, k4], fun j hj => ?_, hA b hbl⟩
    rw [hl] at hj
    show scr.slots[j]? = some (Value.int (((List.range L).map xs).getD j 0))
    rw [k5 j hj, List.getD_eq_getElem?_getD, List.getElem?_map, List.getElem?_range hj]
    rfl
  have hro : mRo s.heap.size sa (mRoL ((List.range L).map xs)) s s.heap := by
    subst hsa
    refine ⟨fun i hi => ?_, fun i q hq => ?_⟩
    · rcases (show i = 0 ∨ i = 1 ∨ i = 2 ∨ i = 3 ∨ i = 4 by omega) with rfl | rfl | rfl | rfl | rfl
      · exact z0
      · exact z1
      · exact z2
      · exact z3
      · exact z4
    · match i, hq with
      | 0, hq => cases hq; exact T0
      | 1, hq => cases hq; exact T1
      | 2, hq => cases hq; exact T2
      | 3, hq => cases hq; exact T3
      | 4, hq => cases hq; exact T4
      | 5, hq => cases hq; exact TX
      | i + 6, hq => simp [mRoL, mStat] at hq
  have hao : mAo s := mAo.of (hts _ mW_ao)
  have hnw : mNw s := ⟨fun a i x b hm => va_Nw.of rfl (hts _ hm), hao⟩
  obtain ⟨c0, a0, f0⟩ := mArrAt (hts _ mW_ai)
  obtain ⟨c1, a1, f1⟩ := mArrAt (hts _ mW_ab)
  obtain ⟨c2, a2, f2⟩ := mArrAt (hts _ mW_az)
  obtain ⟨c3, a3, f3⟩ := mArrAt (hts _ mW_al)
  obtain ⟨c4, a4, f4⟩ := mArrArr hao
  obtain ⟨cy, hcy⟩ : ∃ cy : Nat → ClassId, cy = fun i => match i with | 0 => c0 | 1 => c1 | 2 => c2 | 3 => c3 | _ => c4 := ⟨_, rfl⟩
  have hkn : ∀ ci : Nat, ∃ q : ClassId × (Nat → Nat), ci < 13 → u_Kn s (mCn ci) (mT ci) (mNf ci) q.1 q.2 := fun ci => by
    by_cases h : ci < 13
    · obtain ⟨a, b, h2⟩ := mKnown hts h
      exact ⟨(a, b), fun _ => h2⟩
    · exact ⟨(0, fun _ => 0), fun q => absurd q h⟩
  have hK : va_K (fun k => (Classical.choose (hkn k)).1, fun k => (Classical.choose (hkn k)).2) vwCl (mTys cy) s := by
    refine ⟨fun k q hq => ?_, fun k q hq => ?_⟩
    · obtain ⟨hk, rfl⟩ := mCl_all hq
      exact Classical.choose_spec (hkn k) hk
    · subst hcy
      match k, hq with
      | 0, hq => cases hq; exact ⟨a0, f0⟩
      | 1, hq => cases hq; exact ⟨a1, f1⟩
      | 2, hq => cases hq; exact ⟨a2, f2⟩
      | 3, hq => cases hq; exact ⟨a3, f3⟩
      | 4, hq => cases hq; exact ⟨a4, f4⟩
      | k + 5, hq => simp [mTys] at hq
  have C0 : mCx p s m #[Value.ref b] c code 4 (mOwn 16) (fun k => (Classical.choose (hkn k)).1, fun k => (Classical.choose (hkn k)).2) cy s.heap.size sa (mRoL ((List.range L).map xs)) :=
    ⟨hx, hb, hml, hown, fun w hw => hts w (List.mem_filter.mp hw).1, hK, hro, Nat.le_refl _⟩
  have hlen := mRunN_len (mBig_len d) n _ _ _ _ _ _ _ _ hrun
  have hC : ∀ y as h w h1 c1 s1, mBig (mRoL ((List.range L).map xs)) d y as h w h1 c1 s1 → y < 264 ∧ h1.length = h.length + c1 ∧ (h.length + c1 ≤ mBase → mMet l (fun k => (Classical.choose (hkn k)).1, fun k => (Classical.choose (hkn k)).2) cy s.heap.size sa (mRoL ((List.range L).map xs)) d y as h w h1 c1 s1) := fun y as h w h1 c1 s1 hc => ⟨by
    cases d with
    | zero => exact hc.elim
    | succ d => exact hc.1, mBig_len _ _ _ _ _ _ _ _ hc, fun hb => mBig_met _ _ _ _ _ _ _ _ hc hb⟩
  have hl := lv_entry [Value.ref b] (n := 4) (Nat.le_of_ble_eq_true rfl)
  rw [lg_entry_eq]
  have hlv : mLv (mAd s.heap.size sa) (mEnt 4 [.ref (mBase + 5)]) ((lg_sl [Value.ref b] ++ List.replicate (4 - (lg_sl [Value.ref b]).length) Slot.unset).toArray) := by
    refine mLv.of hl rfl (fun i v hv => ?_)
    have h9 := mFlat_at (mAd s.heap.size sa) 3 [.ref (mBase + 5)] 0 i v hv
    rw [Nat.zero_add] at h9
    have e9 : List.map (mTv (mAd s.heap.size sa)) [Value.ref (mBase + 5)] = [Value.ref b] := by
      show [Value.ref (mAd s.heap.size sa (mBase + 5))] = _
      rw [mAd_hi, hsa]
      rfl
    rw [e9] at h9
    exact h9
  have hW := mRunN_sim (l := l) (e := e) (below := below) (TC := nc) (TS := ns) hC C0 (mTab_ok 264 (Nat.zero_le _) (by decide)) (mTab_len 264) hnw (fun h => absurd h (by decide)) (rk := 2) hr hlk n 0 _ [] [] _ h' nc ns hrun s.heap [] 0 0 _ ⟨fun k q h => by simp [mWs] at h, ⟨fun i j p q h => by simp [mWs] at h, fun k q h => by simp [mWs] at h⟩, va_S.rf⟩ hlv rfl (by simp) (by show 0 + nc ≤ mBase; unfold mBase; omega) (by omega) (by omega)
  refine W.room (R' := mRm (d + 1) nc ns) (by show d + 1 + 1 ≤ 2048; omega) (by show nc ≤ 600000; omega) (by show ns ≤ 7302250; omega) (by show 32 * (d + 1) + 200 ≤ 84000; omega) (W.mono (fun t ht => ?_) hW)
  obtain ⟨o, g1, g2, ⟨g3, -⟩, Lc, ⟨g4, g5, g6⟩, g7⟩ := ht
  exact ⟨o, g1, g2, g3, g4, g5, g6.weaken (fun x hx hlt => absurd (show s.heap.size ≤ x.base from g7 x hx) (Nat.not_le.mpr hlt)) hnc hns⟩
end
section
/-! RULES: a partial function T of Lean is done by the small machine from a place on (Ok): read part 17 on with these -/
def mWp (C : mCal) (ro : List (List Int32)) (rk : Nat) (tab : List (Option mI)) (pc : Nat) (lo : mO) (st : List Value) (h : mH) (v : Option Value) (h' : mH) : Prop := ∃ n, mRunN C ro rk tab n pc lo st h v h' 0 0
/-- whatever T answers, the small machine comes to (res) -/
def Ok {α : Type} (C : mCal) (ro : List (List Int32)) (rk : Nat) (tab : List (Option mI)) (res : α → Option Value × mH) (T : Option α) (pc : Nat) (lo : mO) (st : List Value) (h : mH) : Prop := ∀ x, T = some x → mWp C ro rk tab pc lo st h (res x).1 (res x).2
/-- instructions in a row that go on -/
def mBlk (ro : List (List Int32)) (rk : Nat) (tab : List (Option mI)) : Nat → Nat → mO → List Value → mH → Option (Nat × mO × List Value × mH)
  | 0, pc, lo, st, h => some (pc, lo, st, h)
  | k + 1, pc, lo, st, h => match tab[pc]? with
    | some (some i) => match mStep ro rk i pc lo st h with
      | some (.inl (pc2, lo2, st2, h2, 0, 0)) => mBlk ro rk tab k pc2 lo2 st2 h2
      | _ => none
    | _ => none
def ld (l : List Int32) (i : Int32) : Option Int32 := if i < 0 then none else l[i.toNatClampNeg]?
def ldl (l : List Int64) (i : Int32) : Option Int64 := if i < 0 then none else l[i.toNatClampNeg]?
def sto (l : List Int32) (i x : Int32) : Option (List Int32) := if i < 0 ∨ l.length ≤ i.toNatClampNeg then none else some (l.set i.toNatClampNeg x)
def stl (l : List Int64) (i : Int32) (x : Int64) : Option (List Int64) := if i < 0 ∨ l.length ≤ i.toNatClampNeg then none else some (l.set i.toNatClampNeg x)
def gz (x : Int32) : Option Int32 := if x = 0 ∨ x = 1 then some x else none
def rwi (i : Int32) (n : Nat) : Option Nat := if i < 0 ∨ n ≤ i.toNatClampNeg then none else some i.toNatClampNeg
def dv (x y : Int32) : Option Int32 := if y = 0 then none else some (x / y)
def rm (x y : Int32) : Option Int32 := if y = 0 then none else some (x - x / y * y)
def cpy (f g : List Int32) (sp dp n : Int32) : Option (List Int32) := if ((sp < 0 ∨ dp < 0) ∨ n < 0) ∨ (f.length < sp.toNatClampNeg + n.toNatClampNeg ∨ g.length < dp.toNatClampNeg + n.toNatClampNeg) then none else some (g.take dp.toNatClampNeg ++ ((f.drop sp.toNatClampNeg).take n.toNatClampNeg ++ g.drop (dp.toNatClampNeg + n.toNatClampNeg)))
section RU
variable {α β : Type} {C : mCal} {ro : List (List Int32)} {rk : Nat} {tab : List (Option mI)} {res : α → Option Value × mH} {T : Option α} {pc pc2 : Nat} {lo lo2 lo0 : mO} {st st2 : List Value} {h h2 : mH}
theorem mWp_step {i : mI} {v : Option Value} {h' : mH} (hi : tab[pc]? = some (some i)) (hs : mStep ro rk i pc lo st h = some (.inl (pc2, lo2, st2, h2, 0, 0))) (k : mWp C ro rk tab pc2 lo2 st2 h2 v h') : mWp C ro rk tab pc lo st h v h' := by
  obtain ⟨n, q⟩ := k
  exact ⟨n + 1, i, lo, hi, mLe_refl lo, by rw [hs]; exact ⟨0, 0, rfl, rfl, q⟩⟩
theorem mWp_blk {v : Option Value} {h' : mH} : ∀ (k pc : Nat) (lo : mO) (st : List Value) (h : mH), mBlk ro rk tab k pc lo st h = some (pc2, lo2, st2, h2) → mWp C ro rk tab pc2 lo2 st2 h2 v h' → mWp C ro rk tab pc lo st h v h' := by
  intro k
  induction k with
  | zero =>
    intro pc lo st h e w
    simp only [mBlk, Option.some.injEq, Prod.mk.injEq] at e
    obtain ⟨rfl, rfl, rfl, rfl⟩ := e
    exact w
  | succ k ih =>
    intro pc lo st h e w
    unfold mBlk at e
    split at e
    · rename_i i hi
      split at e
      · rename_i hs
        exact mWp_step hi hs (ih _ _ _ _ e w)
      · cases e
    · cases e
theorem Ok_blk (k : Nat) (e : mBlk ro rk tab k pc lo st h = some (pc2, lo2, st2, h2)) (K : Ok C ro rk tab res T pc2 lo2 st2 h2) : Ok C ro rk tab res T pc lo st h := fun x hx => mWp_blk k _ _ _ _ e (K x hx)
theorem Ok_heap (k : Nat) {h1 : mH} (e : mBlk ro rk tab k pc lo st h = some (pc2, lo2, st2, h1)) (he : h1 = h2) (K : Ok C ro rk tab res T pc2 lo2 st2 h2) : Ok C ro rk tab res T pc lo st h := Ok_blk k (by rw [e, he]) K
theorem mWp_drop {v : Option Value} {h' : mH} (hle : mLe lo0 lo) (w : mWp C ro rk tab pc lo0 st h v h') : mWp C ro rk tab pc lo st h v h' := by
  obtain ⟨n, q⟩ := w
  cases n with
  | zero => exact q.elim
  | succ n =>
    obtain ⟨i, l1, hi, hl, q⟩ := q
    exact ⟨n + 1, i, l1, hi, mLe_trans _ _ _ hl hle, q⟩
theorem Ok_drop (hle : mLe lo0 lo) (K : Ok C ro rk tab res T pc lo0 st h) : Ok C ro rk tab res T pc lo st h := fun x hx => mWp_drop hle (K x hx)
theorem Ok_none : Ok C ro rk tab res none pc lo st h := fun _ e => by cases e
theorem Ok_if {c : Prop} [Decidable c] {A B : Option α} {a b : Nat} (ht : c → Ok C ro rk tab res A a lo st h) (hf : ¬ c → Ok C ro rk tab res B b lo st h) : Ok C ro rk tab res (if c then A else B) (if c then a else b) lo st h := by
  by_cases hc : c
  · rw [if_pos hc, if_pos hc]; exact ht hc
  · rw [if_neg hc, if_neg hc]; exact hf hc
theorem Ok_sw {A B : Option α} {x v : Int32} {t d : Nat} {r : List (Int32 × Nat)} (ht : x = v → Ok C ro rk tab res A t lo st h) (hf : ¬ x = v → Ok C ro rk tab res B (mSw x r d) lo st h) : Ok C ro rk tab res (if x = v then A else B) (mSw x ((v, t) :: r) d) lo st h := by
  unfold mSw
  exact Ok_if ht hf
theorem Ok_eq {S : Option α} (e : T = S) (K : Ok C ro rk tab res S pc lo st h) : Ok C ro rk tab res T pc lo st h := e ▸ K
theorem Ok_bind {γ : Type} {S : Option γ} {K : γ → Option α} (k : ∀ y, S = some y → Ok C ro rk tab res (K y) pc lo st h) : Ok C ro rk tab res (S.bind K) pc lo st h := fun x hx => by
  cases hS : S with
  | none => rw [hS] at hx; cases hx
  | some y => rw [hS] at hx; exact k y hS x hx
theorem Ok_stp {i : mI} (hi : tab[pc]? = some (some i)) (hs : mStep ro rk i pc lo st h = some (.inl (pc2, lo2, st2, h2, 0, 0))) (K : Ok C ro rk tab res T pc2 lo2 st2 h2) : Ok C ro rk tab res T pc lo st h := fun x hx => mWp_step hi hs (K x hx)
theorem mS2 {i : mI} (hk : mKind i.1 = false) : mStep ro rk i pc lo st h = mStep2 ro rk i pc lo st h := by unfold mStep; rw [hk]; rfl
theorem mS1 {i : mI} (hk : mKind i.1 = true) : mStep ro rk i pc lo st h = mStep1 ro i pc lo st h := by unfold mStep; rw [hk]; rfl
theorem Ok_ld {l : List Int32} {i : Int32} {k : Nat} {K : Int32 → Option α} (hi : tab[pc]? = some (kJ .iaload 1)) (hr : mRow ro h k = some l) (kk : ∀ y, ld l i = some y → Ok C ro rk tab res (K y) (pc + 1) lo (.int y :: st) h) : Ok C ro rk tab res ((ld l i).bind K) pc lo (.int i :: .ref k :: st) h :=
  Ok_bind fun y hy => Ok_stp hi (by
    have hy2 := hy
    unfold ld at hy2
    split at hy2
    · cases hy2
    · rename_i h0
      rw [mS2 rfl]
      simp only [mStep2, hr, if_neg h0, hy2]
      rfl) (kk y hy)
theorem Ok_ldb {l : List Int32} {i : Int32} {k t : Nat} {K : Int32 → Option α} (hi : tab[pc]? = some (kJ .baload 1)) (hr : h[k]? = some (.inr (t, .inl l))) (ht : (Nat.beq t 1 || Nat.beq t 2) = true) (kk : ∀ y, ld l i = some y → Ok C ro rk tab res (K y) (pc + 1) lo (.int y :: st) h) : Ok C ro rk tab res ((ld l i).bind K) pc lo (.int i :: .ref k :: st) h :=
  Ok_bind fun y hy => Ok_stp hi (by
    have hy2 := hy
    unfold ld at hy2
    split at hy2
    · cases hy2
    · rename_i h0
      rw [mS2 rfl]
      simp only [mStep2, hr, ht, cond_true, if_neg h0, hy2]
      rfl) (kk y hy)
theorem Ok_ldl {l : List Int64} {i : Int32} {k : Nat} {K : Int64 → Option α} (hi : tab[pc]? = some (kJ .laload 1)) (hr : h[k]? = some (.inr (3, .inr (.inl l)))) (kk : ∀ y, ldl l i = some y → Ok C ro rk tab res (K y) (pc + 1) lo (.long y :: st) h) : Ok C ro rk tab res ((ldl l i).bind K) pc lo (.int i :: .ref k :: st) h :=
  Ok_bind fun y hy => Ok_stp hi (by
    have hy2 := hy
    unfold ldl at hy2
    split at hy2
    · cases hy2
    · rename_i h0
      rw [mS2 rfl]
      simp only [mStep2, hr, if_neg h0, hy2]
      rfl) (kk y hy)
theorem Ok_rw {l : List (Option Nat)} {i : Int32} {k n b : Nat} {K : Nat → Option α} (hi : tab[pc]? = some (kJ .aaload 1)) (hr : h[k]? = some (.inr (4, .inr (.inr l)))) (hl : ∀ j, j < n → l[j]? = some (some (b + j))) (kk : ∀ j, j < n → Ok C ro rk tab res (K j) (pc + 1) lo (.ref (b + j) :: st) h) : Ok C ro rk tab res ((rwi i n).bind K) pc lo (.int i :: .ref k :: st) h :=
  Ok_bind fun j hj => by
    unfold rwi at hj
    split at hj
    · cases hj
    · rename_i h0
      cases hj
      have hn : i.toNatClampNeg < n := Nat.not_le.mp fun q => h0 (Or.inr q)
      refine Ok_stp hi (pc2 := pc + 1) (lo2 := lo) (st2 := .ref (b + i.toNatClampNeg) :: st) (h2 := h) ?_ (kk _ hn)
      rw [mS2 rfl]
      simp only [mStep2, hr, if_neg (fun q => h0 (Or.inl q)), hl _ hn]
      rfl
theorem Ok_st {l : List Int32} {i x : Int32} {k : Nat} {hn : List Int32 → mH} {K : List Int32 → Option α} (hi : tab[pc]? = some (kJ .iastore 1)) (hr : h[k]? = some (.inr (0, .inl l))) (hset : ∀ l', h.set k (.inr (0, .inl l')) = hn l') (kk : ∀ y, sto l i x = some y → Ok C ro rk tab res (K y) (pc + 1) lo st (hn y)) : Ok C ro rk tab res ((sto l i x).bind K) pc lo (.int x :: .int i :: .ref k :: st) h :=
  Ok_bind fun y hy => by
    have hy2 := hy
    unfold sto at hy2
    split at hy2
    · cases hy2
    · rename_i h0
      cases hy2
      refine Ok_stp hi (pc2 := pc + 1) (lo2 := lo) (st2 := st) (h2 := hn _) ?_ (kk _ hy)
      rw [mS2 rfl]
      simp only [mStep2, hr, if_neg h0, hset]
      rfl
theorem Ok_stb {l : List Int32} {i x : Int32} {k : Nat} {hn : List Int32 → mH} {K : List Int32 → Option α} (hi : tab[pc]? = some (kJ .bastore 1)) (hr : h[k]? = some (.inr (1, .inl l))) (hset : ∀ l', h.set k (.inr (1, .inl l')) = hn l') (kk : ∀ y, sto l i x.toInt8.toInt32 = some y → Ok C ro rk tab res (K y) (pc + 1) lo st (hn y)) : Ok C ro rk tab res ((sto l i x.toInt8.toInt32).bind K) pc lo (.int x :: .int i :: .ref k :: st) h :=
  Ok_bind fun y hy => by
    have hy2 := hy
    unfold sto at hy2
    split at hy2
    · cases hy2
    · rename_i h0
      cases hy2
      refine Ok_stp hi (pc2 := pc + 1) (lo2 := lo) (st2 := st) (h2 := hn _) ?_ (kk _ hy)
      rw [mS2 rfl]
      simp only [mStep2, hr, if_neg h0, hset]
      rfl
theorem Ok_stz {l : List Int32} {i x : Int32} {k : Nat} {hn : List Int32 → mH} {K : List Int32 → Option α} (hi : tab[pc]? = some (kJ .bastore 1)) (hr : h[k]? = some (.inr (2, .inl l))) (hset : ∀ l', h.set k (.inr (2, .inl l')) = hn l') (kk : ∀ y, ((gz x).bind fun x1 => sto l i x1) = some y → Ok C ro rk tab res (K y) (pc + 1) lo st (hn y)) : Ok C ro rk tab res (((gz x).bind fun x1 => sto l i x1).bind K) pc lo (.int x :: .int i :: .ref k :: st) h :=
  Ok_bind fun y hy => by
    have hy2 := hy
    unfold gz at hy2
    split at hy2
    · rename_i hx
      simp only [Option.bind_some] at hy2
      unfold sto at hy2
      split at hy2
      · cases hy2
      · rename_i h0
        cases hy2
        refine Ok_stp hi (pc2 := pc + 1) (lo2 := lo) (st2 := st) (h2 := hn _) ?_ (kk _ hy)
        rw [mS2 rfl]
        simp only [mStep2, hr, if_neg (show ¬ ((i < 0 ∨ l.length ≤ i.toNatClampNeg) ∨ ¬ (x = 0 ∨ x = 1)) from fun q => q.elim h0 (fun q => q hx)), hset]
        rfl
    · cases hy2
theorem Ok_stl {l : List Int64} {i : Int32} {x : Int64} {k : Nat} {hn : List Int64 → mH} {K : List Int64 → Option α} (hi : tab[pc]? = some (kJ .lastore 1)) (hr : h[k]? = some (.inr (3, .inr (.inl l)))) (hset : ∀ l', h.set k (.inr (3, .inr (.inl l'))) = hn l') (kk : ∀ y, stl l i x = some y → Ok C ro rk tab res (K y) (pc + 1) lo st (hn y)) : Ok C ro rk tab res ((stl l i x).bind K) pc lo (.long x :: .int i :: .ref k :: st) h :=
  Ok_bind fun y hy => by
    have hy2 := hy
    unfold stl at hy2
    split at hy2
    · cases hy2
    · rename_i h0
      cases hy2
      refine Ok_stp hi (pc2 := pc + 1) (lo2 := lo) (st2 := st) (h2 := hn _) ?_ (kk _ hy)
      rw [mS2 rfl]
      simp only [mStep2, hr, if_neg h0, hset]
      rfl
theorem Ok_dv {x y : Int32} {K : Int32 → Option α} (hi : tab[pc]? = some (kJ .idiv 1)) (kk : ∀ q, dv x y = some q → Ok C ro rk tab res (K q) (pc + 1) lo (.int q :: st) h) : Ok C ro rk tab res ((dv x y).bind K) pc lo (.int y :: .int x :: st) h :=
  Ok_bind fun q hq => by
    have h2 := hq
    unfold dv at h2
    split at h2
    · cases h2
    · rename_i h0
      cases h2
      refine Ok_stp hi (pc2 := pc + 1) (lo2 := lo) (h2 := h) ?_ (kk _ hq)
      rw [mS1 rfl]
      simp only [mStep1, if_neg h0]
      rfl
theorem Ok_rm {x y : Int32} {K : Int32 → Option α} (hi : tab[pc]? = some (kJ .irem 1)) (kk : ∀ q, rm x y = some q → Ok C ro rk tab res (K q) (pc + 1) lo (.int q :: st) h) : Ok C ro rk tab res ((rm x y).bind K) pc lo (.int y :: .int x :: st) h :=
  Ok_bind fun q hq => by
    have h2 := hq
    unfold rm at h2
    split at h2
    · cases h2
    · rename_i h0
      cases h2
      refine Ok_stp hi (pc2 := pc + 1) (lo2 := lo) (h2 := h) ?_ (kk _ hq)
      rw [mS1 rfl]
      simp only [mStep1, if_neg h0]
      rfl
theorem Ok_ret {x : α} {i : mI} {w : Option Value} (hi : tab[pc]? = some (some i)) (hs : mStep ro rk i pc lo st h = some (.inr (.inl w))) (hres : res x = (w, h)) : Ok C ro rk tab res (some x) pc lo st h := fun y hy => by
  cases hy
  rw [hres]
  exact ⟨1, i, lo, hi, mLe_refl lo, by rw [hs]; exact ⟨rfl, rfl, rfl, rfl⟩⟩
theorem Ok_rez {x : α} {b : Int32} (hb : b = 0 ∨ b = 1) (hi : tab[pc]? = some (kJ .ireturn 1)) (hres : res x = (some (.int b), h)) : Ok C ro 2 tab res (some x) pc lo [.int b] h :=
  Ok_ret hi (by rw [mS2 rfl]; simp only [mStep2, if_pos hb]) hres
theorem Ok_call {γ : Type} {S : Option γ} {K : γ → Option α} {i : mI} {y : Nat} {as rest : List Value} {w : γ → Option Value} {h1 : γ → mH} (hi : tab[pc]? = some (some i)) (hs : mStep ro rk i pc lo st h = some (.inr (.inr (y, as, rest)))) (hz : ∀ x, S = some x → C y as h (w x) (h1 x) 0 0) (kk : ∀ x, S = some x → Ok C ro rk tab res (K x) (pc + 3) lo ((w x).toList ++ rest) (h1 x)) : Ok C ro rk tab res (S.bind K) pc lo st h :=
  Ok_bind fun x hx t ht => by
    obtain ⟨n, q⟩ := kk x hx t ht
    exact ⟨n + 1, i, lo, hi, mLe_refl lo, by rw [hs]; exact ⟨w x, h1 x, 0, 0, 0, 0, hz x hx, rfl, rfl, q⟩⟩
theorem Ok_cpy {f g : List Int32} {sp dp n : Int32} {k k2 : Nat} {hn : List Int32 → mH} {K : List Int32 → Option α} {ai aj ak : Nat} {w : Nat} (hi : tab[pc]? = some (kI (.invokestatic w) 3 ai aj 1 0)) (hr : h[k]? = some (.inr (0, .inl f))) (hr2 : h[k2]? = some (.inr (0, .inl g))) (hc : mCat st ≤ 8) (hset : ∀ l', h.set k2 (.inr (0, .inl l')) = hn l') (kk : ∀ y, cpy f g sp dp n = some y → Ok C ro rk tab res (K y) (pc + 3) lo st (hn y)) : Ok C ro rk tab res ((cpy f g sp dp n).bind K) pc lo (.int n :: .int dp :: .ref k2 :: .int sp :: .ref k :: st) h :=
  Ok_bind fun y hy => by
    have hy2 := hy
    unfold cpy at hy2
    split at hy2
    · cases hy2
    · rename_i h0
      cases hy2
      refine Ok_stp hi (pc2 := pc + 3) (lo2 := lo) (st2 := st) (h2 := hn _) ?_ (kk _ hy)
      rw [mS2 rfl]
      simp only [mStep2, Nat.beq, cond_true, hr, hr2]
      rw [if_neg (fun q => q.elim (fun q => h0 (Or.inl q)) (fun q => q.elim (fun q => h0 (Or.inr q)) (fun q => by omega))), hset]
      rfl
theorem mBig_of {d y n0 : Nat} {as : List Value} {v : Option Value} {h' : mH} (hy : y < 264) (hf : Nat.ble (mFlat as).length (mMeth y).2.2.1 = true) (ht : mTab y = tab) (hk : (mMeth y).2.2.2.2.2.1 = rk) (hn : (mMeth y).2.2.1 = n0) (w : mWp (mBig ro d) ro rk tab 0 (mEnt n0 as) [] h v h') : mBig ro (d + 1) y as h v h' 0 0 := by
  obtain ⟨n, q⟩ := w
  subst ht; subst hk; subst hn
  exact ⟨hy, Nat.le_of_ble_eq_true hf, n, q⟩
end RU
theorem mRunN_z {C : mCal} {ro : List (List Int32)} {tab : List (Option mI)} : ∀ (n pc : Nat) (lo : mO) (st : List Value) (h : mH) (x : Int32) (h' : mH) (nc ns : Nat), mRunN C ro 2 tab n pc lo st h (some (.int x)) h' nc ns → x = 0 ∨ x = 1 := by
  intro n
  induction n with
  | zero => intro pc lo st h v h' nc ns q; exact q.elim
  | succ n ih =>
    intro pc lo1 st h v h' nc ns q
    obtain ⟨i, lo, hi, -, q⟩ := q
    split at q
    · exact q.elim
    · obtain ⟨nc2, ns2, rfl, rfl, q⟩ := q
      exact ih _ _ _ _ _ _ _ _ q
    · rename_i w hs
      obtain ⟨e, -⟩ := q
      subst e
      obtain ⟨ins, len, a1, a2, a3, v32, v64, sw⟩ := i
      unfold mStep at hs
      cases hk : mKind ins with
      | true =>
        rw [hk] at hs
        simp only [cond_true] at hs
        obtain ⟨_, _, _, hx⟩ := mStep1_len hs
        cases hx
      | false =>
        rw [hk] at hs
        simp only [cond_false] at hs
        rcases mStep2_ret hs with rfl | rfl | rfl
        · simp only [mStep2] at hs
          split at hs
          · exact absurd (by assumption : (2 : Nat) = 1) (by decide)
          · split at hs
            · rename_i hb
              cases hs
              exact hb
            · cases hs
          · cases hs
        · simp only [mStep2] at hs
          cases hs
        · simp only [mStep2] at hs
          cases hs
    · obtain ⟨w, h1, c1, s1, nc2, ns2, hc, rfl, rfl, q⟩ := q
      exact ih _ _ _ _ _ _ _ _ q
theorem mBig_z {ro : List (List Int32)} {d y : Nat} {as : List Value} {h h' : mH} {x : Int32} {nc ns : Nat} (q : mBig ro d y as h (some (.int x)) h' nc ns) (hy : (mMeth y).2.2.2.2.2.1 = 2) : x = 0 ∨ x = 1 := by
  cases d with
  | zero => exact q.elim
  | succ d =>
    obtain ⟨-, -, n, q⟩ := q
    rw [hy] at q
    exact mRunN_z _ _ _ _ _ _ _ _ _ q
section RU2
variable {α : Type} {C : mCal} {ro : List (List Int32)} {rk : Nat} {tab : List (Option mI)} {res : α → Option Value × mH} {pc : Nat} {lo : mO} {st : List Value} {h h2 : mH}
theorem Ok_gz {x : Int32} {K : Int32 → Option α} (kk : (x = 0 ∨ x = 1) → Ok C ro rk tab res (K x) pc lo st h) : Ok C ro rk tab res ((gz x).bind K) pc lo st h := Ok_bind fun y hy => by
  unfold gz at hy
  split at hy
  · rename_i hx
    cases hy
    exact kk hx
  · cases hy
theorem Ok_putz {x : Int32} {k w ci j : Nat} {fs : List Value} {T : Option α} (hx : x = 0 ∨ x = 1) (hi : tab[pc]? = some (kI (.putfield w) 3 ci j 1 0)) (hr : h[k]? = some (.inl (ci, fs))) (hc : (Nat.beq ci ci && Nat.blt j fs.length) = true) (he : h.set k (.inl (ci, fs.set j (.int x))) = h2) (K : Ok C ro rk tab res T (pc + 3) lo st h2) : Ok C ro rk tab res T pc lo (.int x :: .ref k :: st) h := by
  refine Ok_stp hi (pc2 := pc + 3) (lo2 := lo) (st2 := st) (h2 := h2) ?_ K
  rw [mS2 rfl]
  simp only [mStep2, hr, hc, cond_true, if_pos hx, he]
  rfl
end RU2
theorem Ok_len {α : Type} {C : mCal} {ro : List (List Int32)} {rk : Nat} {tab : List (Option mI)} {res : α → Option Value × mH} {T : Option α} {pc k : Nat} {lo : mO} {st : List Value} {h : mH} {l : List Int32} (hi : tab[pc]? = some (kJ .arraylength 1)) (hr : mRow ro h k = some l) (K : Ok C ro rk tab res T (pc + 1) lo (.int (Int32.ofNat l.length) :: st) h) : Ok C ro rk tab res T pc lo (.ref k :: st) h :=
  Ok_stp hi (by rw [mS2 rfl]; simp only [mStep2, hr]; rfl) K
theorem mCong {ro : List (List Int32)} {a b y : Nat} {as : List Value} {h h' : mH} {v : Option Value} {nc ns : Nat} (e : a = b) (q : mBig ro a y as h v h' nc ns) : mBig ro b y as h v h' nc ns := e ▸ q
end
section
/-! the cells behind the constructors: HP c r, what they hold in registers c (the component's) and r (the reference's) -/
abbrev St : Type := (Nat → Int32) × (Nat → Int64) × (Nat → List Int32) × (Nat → List Int64)
def gI (c : St) (k : Nat) : Int32 := c.1 k
def gL (c : St) (k : Nat) : Int64 := c.2.1 k
def gA (c : St) (k : Nat) : List Int32 := c.2.2.1 k
def gB (c : St) (k : Nat) : List Int64 := c.2.2.2 k
def sI (c : St) (k : Nat) (v : Int32) : St := (fun j => bif Nat.beq j k then v else c.1 j, c.2)
def sL (c : St) (k : Nat) (v : Int64) : St := (c.1, fun j => bif Nat.beq j k then v else c.2.1 j, c.2.2)
def sA (c : St) (k : Nat) (v : List Int32) : St := (c.1, c.2.1, fun j => bif Nat.beq j k then v else c.2.2.1 j, c.2.2.2)
def sB (c : St) (k : Nat) (v : List Int64) : St := (c.1, c.2.1, c.2.2.1, fun j => bif Nat.beq j k then v else c.2.2.2 j)
def HC (c : St) : mH := [.inl (11, [.ref 1, .ref 7, .ref 11, .ref 15, .ref 40, .ref 59, .ref 62, .ref 67, .ref 82, .ref 88, .ref 100, .ref 104]), .inl (4, [.ref 2, .ref 3, .ref 4, .int (gI c 0), .int (gI c 1), .int (gI c 2), .ref 5, .ref 6]), .inr (0, .inl (gA c 0)), .inr (0, .inl (gA c 1)), .inr (0, .inl (gA c 2)), .inr (0, .inl (gA c 3)), .inr (0, .inl (gA c 4)), .inl (0, [.ref 8, .ref 9, .int (gI c 3), .ref 10]), .inr (0, .inl (gA c 5)), .inr (0, .inl (gA c 6)), .inr (0, .inl (gA c 7)), .inl (0, [.ref 12, .ref 13, .int (gI c 4), .ref 14]), .inr (0, .inl (gA c 8)), .inr (0, .inl (gA c 9)), .inr (0, .inl (gA c 10)), .inl (5, [.ref 16, .ref 17, .ref 18, .int (gI c 5), .ref 19]), .inr (0, .inl (gA c 11)), .inr (0, .inl (gA c 12)), .inr (0, .inl (gA c 13)), .inr (4, .inr (.inr [some 20, some 21, some 22, some 23, some 24, some 25, some 26, some 27, some 28, some 29, some 30, some 31, some 32, some 33, some 34, some 35, some 36, some 37, some 38, some 39])), .inr (0, .inl (gA c 14)), .inr (0, .inl (gA c 15)), .inr (0, .inl (gA c 16)), .inr (0, .inl (gA c 17)), .inr (0, .inl (gA c 18)), .inr (0, .inl (gA c 19)), .inr (0, .inl (gA c 20)), .inr (0, .inl (gA c 21)), .inr (0, .inl (gA c 22)), .inr (0, .inl (gA c 23)), .inr (0, .inl (gA c 24)), .inr (0, .inl (gA c 25)), .inr (0, .inl (gA c 26)), .inr (0, .inl (gA c 27)), .inr (0, .inl (gA c 28)), .inr (0, .inl (gA c 29)), .inr (0, .inl (gA c 30)), .inr (0, .inl (gA c 31)), .inr (0, .inl (gA c 32)), .inr (0, .inl (gA c 33)), .inl (10, [.ref 41, .int (gI c 6), .int (gI c 7), .int (gI c 8), .int (gI c 9), .int (gI c 10), .int (gI c 11), .ref 42, .ref 55, .ref 56, .ref 57, .ref 58, .int (gI c 12), .int (gI c 13), .int (gI c 14)]), .inr (0, .inl (gA c 34)), .inr (4, .inr (.inr [some 43, some 44, some 45, some 46, some 47, some 48, some 49, some 50, some 51, some 52, some 53, some 54])), .inr (0, .inl (gA c 35)), .inr (0, .inl (gA c 36)), .inr (0, .inl (gA c 37)), .inr (0, .inl (gA c 38)), .inr (0, .inl (gA c 39)), .inr (0, .inl (gA c 40)), .inr (0, .inl (gA c 41)), .inr (0, .inl (gA c 42)), .inr (0, .inl (gA c 43)), .inr (0, .inl (gA c 44)), .inr (0, .inl (gA c 45)), .inr (0, .inl (gA c 46)), .inr (0, .inl (gA c 47)), .inr (0, .inl (gA c 48)), .inr (3, .inr (.inl (gB c 0))), .inr (3, .inr (.inl (gB c 1))), .inl (7, [.int (gI c 15), .int (gI c 16), .ref 60, .ref 61]), .inr (0, .inl (gA c 49)), .inr (0, .inl (gA c 50)), .inl (9, [.ref 63, .int (gI c 17), .int (gI c 18), .int (gI c 19), .int (gI c 20), .ref 64, .ref 65, .ref 66]), .inr (0, .inl (gA c 51)), .inr (0, .inl (gA c 52)), .inr (0, .inl (gA c 53)), .inr (0, .inl (gA c 54)), .inl (2, [.ref 68, .ref 69, .int (gI c 21), .int (gI c 22), .int (gI c 23), .ref 76, .ref 77, .ref 78, .ref 79, .ref 80, .ref 81]), .inr (0, .inl (gA c 55)), .inr (4, .inr (.inr [some 70, some 71, some 72, some 73, some 74, some 75])), .inr (0, .inl (gA c 56)), .inr (0, .inl (gA c 57)), .inr (0, .inl (gA c 58)), .inr (0, .inl (gA c 59)), .inr (0, .inl (gA c 60)), .inr (0, .inl (gA c 61)), .inr (0, .inl (gA c 62)), .inr (0, .inl (gA c 63)), .inr (0, .inl (gA c 64)), .inr (0, .inl (gA c 65)), .inr (0, .inl (gA c 66)), .inr (0, .inl (gA c 67)), .inl (6, [.ref 83, .int (gI c 24), .ref 84, .ref 85, .ref 86, .ref 87]), .inr (0, .inl (gA c 68)), .inr (0, .inl (gA c 69)), .inr (0, .inl (gA c 70)), .inr (0, .inl (gA c 71)), .inr (0, .inl (gA c 72)), .inl (3, [.ref 89, .int (gI c 25), .int (gI c 26), .ref 98, .ref 99]), .inr (4, .inr (.inr [some 90, some 91, some 92, some 93, some 94, some 95, some 96, some 97])), .inr (0, .inl (gA c 73)), .inr (0, .inl (gA c 74)), .inr (0, .inl (gA c 75)), .inr (0, .inl (gA c 76)), .inr (0, .inl (gA c 77)), .inr (0, .inl (gA c 78)), .inr (0, .inl (gA c 79)), .inr (0, .inl (gA c 80)), .inr (0, .inl (gA c 81)), .inr (0, .inl (gA c 82)), .inl (8, [.ref 101, .int (gI c 27), .ref 102, .ref 103]), .inr (0, .inl (gA c 83)), .inr (0, .inl (gA c 84)), .inr (0, .inl (gA c 85)), .inl (1, [.ref 105, .int (gI c 28), .ref 114]), .inr (4, .inr (.inr [some 106, some 107, some 108, some 109, some 110, some 111, some 112, some 113])), .inr (0, .inl (gA c 86)), .inr (0, .inl (gA c 87)), .inr (0, .inl (gA c 88)), .inr (0, .inl (gA c 89)), .inr (0, .inl (gA c 90)), .inr (0, .inl (gA c 91)), .inr (0, .inl (gA c 92)), .inr (0, .inl (gA c 93)), .inr (0, .inl (gA c 94))]
def HR (r : St) : mH := [.inl (12, [.ref 116, .ref 117, .ref 118, .int (gI r 0), .int (gI r 1), .int (gI r 2), .int (gI r 3), .int (gI r 4), .int (gI r 5), .int (gI r 6), .ref 119, .ref 120, .int (gI r 7), .ref 121, .ref 122, .ref 123, .ref 124, .ref 125, .int (gI r 8), .ref 126, .int (gI r 9), .ref 127, .ref 128, .int (gI r 10), .ref 129, .ref 130, .int (gI r 11), .int (gI r 12), .ref 131, .int (gI r 13), .ref 132, .ref 133, .ref 134, .ref 135, .int (gI r 14), .int (gI r 15), .int (gI r 16), .int (gI r 17), .int (gI r 18), .int (gI r 19), .ref 136, .ref 137, .int (gI r 20), .ref 138, .ref 139, .ref 140, .int (gI r 21), .ref 141, .ref 142, .int (gI r 22), .int (gI r 23), .int (gI r 24), .int (gI r 25), .int (gI r 26), .ref 143, .ref 144, .ref 145, .ref 146, .ref 147, .int (gI r 27), .int (gI r 28), .int (gI r 29), .int (gI r 30), .int (gI r 31), .ref 148, .ref 149, .int (gI r 32), .ref 150, .ref 151, .ref 152, .int (gI r 33), .ref 153, .ref 154, .ref 155, .ref 156, .ref 157, .int (gI r 34), .long (gL r 0)]), .inr (0, .inl (gA r 0)), .inr (0, .inl (gA r 1)), .inr (2, .inl (gA r 2)), .inr (0, .inl (gA r 3)), .inr (0, .inl (gA r 4)), .inr (0, .inl (gA r 5)), .inr (0, .inl (gA r 6)), .inr (0, .inl (gA r 7)), .inr (0, .inl (gA r 8)), .inr (0, .inl (gA r 9)), .inr (1, .inl (gA r 10)), .inr (1, .inl (gA r 11)), .inr (0, .inl (gA r 12)), .inr (0, .inl (gA r 13)), .inr (0, .inl (gA r 14)), .inr (0, .inl (gA r 15)), .inr (0, .inl (gA r 16)), .inr (0, .inl (gA r 17)), .inr (0, .inl (gA r 18)), .inr (0, .inl (gA r 19)), .inr (0, .inl (gA r 20)), .inr (0, .inl (gA r 21)), .inr (0, .inl (gA r 22)), .inr (0, .inl (gA r 23)), .inr (0, .inl (gA r 24)), .inr (0, .inl (gA r 25)), .inr (0, .inl (gA r 26)), .inr (0, .inl (gA r 27)), .inr (0, .inl (gA r 28)), .inr (0, .inl (gA r 29)), .inr (0, .inl (gA r 30)), .inr (0, .inl (gA r 31)), .inr (3, .inr (.inl (gB r 0))), .inr (3, .inr (.inl (gB r 1))), .inr (0, .inl (gA r 32)), .inr (0, .inl (gA r 33)), .inr (0, .inl (gA r 34)), .inr (0, .inl (gA r 35)), .inr (0, .inl (gA r 36)), .inr (0, .inl (gA r 37)), .inr (0, .inl (gA r 38)), .inr (0, .inl (gA r 39))]
def HP (c r : St) : mH := HC c ++ HR r
/-- an int row of the component, by its cell and its register -/
def AR (k j : Nat) : Prop := k < mBase ∧ ∀ c r : St, (HP c r)[k]? = some (.inr (0, .inl (gA c j))) ∧ ∀ l : List Int32, (HP c r).set k (.inr (0, .inl l)) = HP (sA c j l) r
theorem AR.row {k j : Nat} (h : AR k j) (ro : List (List Int32)) (c r : St) : mRow ro (HP c r) k = some (gA c j) := by
  unfold mRow
  rw [Nat.blt_eq.mpr h.1]
  simp only [cond_true, (h.2 c r).1]
set_option maxHeartbeats 4000000 in
set_option maxRecDepth 100000 in
theorem st_1_3 (c r : St) (x : Int32) : (HP c r).set 1 (.inl (4, [.ref 2, .ref 3, .ref 4, .int x, .int (gI c 1), .int (gI c 2), .ref 5, .ref 6])) = HP (sI c 0 x) r := rfl
set_option maxHeartbeats 4000000 in
set_option maxRecDepth 100000 in
theorem st_1_4 (c r : St) (x : Int32) : (HP c r).set 1 (.inl (4, [.ref 2, .ref 3, .ref 4, .int (gI c 0), .int x, .int (gI c 2), .ref 5, .ref 6])) = HP (sI c 1 x) r := rfl
set_option maxHeartbeats 4000000 in
set_option maxRecDepth 100000 in
theorem st_1_5 (c r : St) (x : Int32) : (HP c r).set 1 (.inl (4, [.ref 2, .ref 3, .ref 4, .int (gI c 0), .int (gI c 1), .int x, .ref 5, .ref 6])) = HP (sI c 2 x) r := rfl
set_option maxHeartbeats 4000000 in
set_option maxRecDepth 100000 in
theorem sa_2 (c r : St) (l : List Int32) : (HP c r).set 2 (.inr (0, .inl l)) = HP (sA c 0 l) r := rfl
theorem ar_2 : AR 2 0 := ⟨by decide, fun c r => ⟨rfl, fun l => sa_2 c r l⟩⟩
set_option maxHeartbeats 4000000 in
set_option maxRecDepth 100000 in
theorem sa_3 (c r : St) (l : List Int32) : (HP c r).set 3 (.inr (0, .inl l)) = HP (sA c 1 l) r := rfl
theorem ar_3 : AR 3 1 := ⟨by decide, fun c r => ⟨rfl, fun l => sa_3 c r l⟩⟩
set_option maxHeartbeats 4000000 in
set_option maxRecDepth 100000 in
theorem sa_4 (c r : St) (l : List Int32) : (HP c r).set 4 (.inr (0, .inl l)) = HP (sA c 2 l) r := rfl
theorem ar_4 : AR 4 2 := ⟨by decide, fun c r => ⟨rfl, fun l => sa_4 c r l⟩⟩
set_option maxHeartbeats 4000000 in
set_option maxRecDepth 100000 in
theorem sa_5 (c r : St) (l : List Int32) : (HP c r).set 5 (.inr (0, .inl l)) = HP (sA c 3 l) r := rfl
theorem ar_5 : AR 5 3 := ⟨by decide, fun c r => ⟨rfl, fun l => sa_5 c r l⟩⟩
set_option maxHeartbeats 4000000 in
set_option maxRecDepth 100000 in
theorem sa_6 (c r : St) (l : List Int32) : (HP c r).set 6 (.inr (0, .inl l)) = HP (sA c 4 l) r := rfl
theorem ar_6 : AR 6 4 := ⟨by decide, fun c r => ⟨rfl, fun l => sa_6 c r l⟩⟩
set_option maxHeartbeats 4000000 in
set_option maxRecDepth 100000 in
theorem st_7_2 (c r : St) (x : Int32) : (HP c r).set 7 (.inl (0, [.ref 8, .ref 9, .int x, .ref 10])) = HP (sI c 3 x) r := rfl
set_option maxHeartbeats 4000000 in
set_option maxRecDepth 100000 in
theorem sa_8 (c r : St) (l : List Int32) : (HP c r).set 8 (.inr (0, .inl l)) = HP (sA c 5 l) r := rfl
theorem ar_8 : AR 8 5 := ⟨by decide, fun c r => ⟨rfl, fun l => sa_8 c r l⟩⟩
set_option maxHeartbeats 4000000 in
set_option maxRecDepth 100000 in
theorem sa_9 (c r : St) (l : List Int32) : (HP c r).set 9 (.inr (0, .inl l)) = HP (sA c 6 l) r := rfl
theorem ar_9 : AR 9 6 := ⟨by decide, fun c r => ⟨rfl, fun l => sa_9 c r l⟩⟩
set_option maxHeartbeats 4000000 in
set_option maxRecDepth 100000 in
theorem sa_10 (c r : St) (l : List Int32) : (HP c r).set 10 (.inr (0, .inl l)) = HP (sA c 7 l) r := rfl
theorem ar_10 : AR 10 7 := ⟨by decide, fun c r => ⟨rfl, fun l => sa_10 c r l⟩⟩
set_option maxHeartbeats 4000000 in
set_option maxRecDepth 100000 in
theorem st_11_2 (c r : St) (x : Int32) : (HP c r).set 11 (.inl (0, [.ref 12, .ref 13, .int x, .ref 14])) = HP (sI c 4 x) r := rfl
set_option maxHeartbeats 4000000 in
set_option maxRecDepth 100000 in
theorem sa_12 (c r : St) (l : List Int32) : (HP c r).set 12 (.inr (0, .inl l)) = HP (sA c 8 l) r := rfl
theorem ar_12 : AR 12 8 := ⟨by decide, fun c r => ⟨rfl, fun l => sa_12 c r l⟩⟩
set_option maxHeartbeats 4000000 in
set_option maxRecDepth 100000 in
theorem sa_13 (c r : St) (l : List Int32) : (HP c r).set 13 (.inr (0, .inl l)) = HP (sA c 9 l) r := rfl
theorem ar_13 : AR 13 9 := ⟨by decide, fun c r => ⟨rfl, fun l => sa_13 c r l⟩⟩
set_option maxHeartbeats 4000000 in
set_option maxRecDepth 100000 in
theorem sa_14 (c r : St) (l : List Int32) : (HP c r).set 14 (.inr (0, .inl l)) = HP (sA c 10 l) r := rfl
theorem ar_14 : AR 14 10 := ⟨by decide, fun c r => ⟨rfl, fun l => sa_14 c r l⟩⟩
set_option maxHeartbeats 4000000 in
set_option maxRecDepth 100000 in
theorem st_15_3 (c r : St) (x : Int32) : (HP c r).set 15 (.inl (5, [.ref 16, .ref 17, .ref 18, .int x, .ref 19])) = HP (sI c 5 x) r := rfl
set_option maxHeartbeats 4000000 in
set_option maxRecDepth 100000 in
theorem sa_16 (c r : St) (l : List Int32) : (HP c r).set 16 (.inr (0, .inl l)) = HP (sA c 11 l) r := rfl
theorem ar_16 : AR 16 11 := ⟨by decide, fun c r => ⟨rfl, fun l => sa_16 c r l⟩⟩
set_option maxHeartbeats 4000000 in
set_option maxRecDepth 100000 in
theorem sa_17 (c r : St) (l : List Int32) : (HP c r).set 17 (.inr (0, .inl l)) = HP (sA c 12 l) r := rfl
theorem ar_17 : AR 17 12 := ⟨by decide, fun c r => ⟨rfl, fun l => sa_17 c r l⟩⟩
set_option maxHeartbeats 4000000 in
set_option maxRecDepth 100000 in
theorem sa_18 (c r : St) (l : List Int32) : (HP c r).set 18 (.inr (0, .inl l)) = HP (sA c 13 l) r := rfl
theorem ar_18 : AR 18 13 := ⟨by decide, fun c r => ⟨rfl, fun l => sa_18 c r l⟩⟩
set_option maxHeartbeats 4000000 in
set_option maxRecDepth 100000 in
theorem sa_20 (c r : St) (l : List Int32) : (HP c r).set 20 (.inr (0, .inl l)) = HP (sA c 14 l) r := rfl
theorem ar_20 : AR 20 14 := ⟨by decide, fun c r => ⟨rfl, fun l => sa_20 c r l⟩⟩
set_option maxHeartbeats 4000000 in
set_option maxRecDepth 100000 in
theorem sa_21 (c r : St) (l : List Int32) : (HP c r).set 21 (.inr (0, .inl l)) = HP (sA c 15 l) r := rfl
theorem ar_21 : AR 21 15 := ⟨by decide, fun c r => ⟨rfl, fun l => sa_21 c r l⟩⟩
set_option maxHeartbeats 4000000 in
set_option maxRecDepth 100000 in
theorem sa_22 (c r : St) (l : List Int32) : (HP c r).set 22 (.inr (0, .inl l)) = HP (sA c 16 l) r := rfl
theorem ar_22 : AR 22 16 := ⟨by decide, fun c r => ⟨rfl, fun l => sa_22 c r l⟩⟩
set_option maxHeartbeats 4000000 in
set_option maxRecDepth 100000 in
theorem sa_23 (c r : St) (l : List Int32) : (HP c r).set 23 (.inr (0, .inl l)) = HP (sA c 17 l) r := rfl
theorem ar_23 : AR 23 17 := ⟨by decide, fun c r => ⟨rfl, fun l => sa_23 c r l⟩⟩
set_option maxHeartbeats 4000000 in
set_option maxRecDepth 100000 in
theorem sa_24 (c r : St) (l : List Int32) : (HP c r).set 24 (.inr (0, .inl l)) = HP (sA c 18 l) r := rfl
theorem ar_24 : AR 24 18 := ⟨by decide, fun c r => ⟨rfl, fun l => sa_24 c r l⟩⟩
set_option maxHeartbeats 4000000 in
set_option maxRecDepth 100000 in
theorem sa_25 (c r : St) (l : List Int32) : (HP c r).set 25 (.inr (0, .inl l)) = HP (sA c 19 l) r := rfl
theorem ar_25 : AR 25 19 := ⟨by decide, fun c r => ⟨rfl, fun l => sa_25 c r l⟩⟩
set_option maxHeartbeats 4000000 in
set_option maxRecDepth 100000 in
theorem sa_26 (c r : St) (l : List Int32) : (HP c r).set 26 (.inr (0, .inl l)) = HP (sA c 20 l) r := rfl
theorem ar_26 : AR 26 20 := ⟨by decide, fun c r => ⟨rfl, fun l => sa_26 c r l⟩⟩
set_option maxHeartbeats 4000000 in
set_option maxRecDepth 100000 in
theorem sa_27 (c r : St) (l : List Int32) : (HP c r).set 27 (.inr (0, .inl l)) = HP (sA c 21 l) r := rfl
theorem ar_27 : AR 27 21 := ⟨by decide, fun c r => ⟨rfl, fun l => sa_27 c r l⟩⟩
set_option maxHeartbeats 4000000 in
set_option maxRecDepth 100000 in
theorem sa_28 (c r : St) (l : List Int32) : (HP c r).set 28 (.inr (0, .inl l)) = HP (sA c 22 l) r := rfl
theorem ar_28 : AR 28 22 := ⟨by decide, fun c r => ⟨rfl, fun l => sa_28 c r l⟩⟩
set_option maxHeartbeats 4000000 in
set_option maxRecDepth 100000 in
theorem sa_29 (c r : St) (l : List Int32) : (HP c r).set 29 (.inr (0, .inl l)) = HP (sA c 23 l) r := rfl
theorem ar_29 : AR 29 23 := ⟨by decide, fun c r => ⟨rfl, fun l => sa_29 c r l⟩⟩
set_option maxHeartbeats 4000000 in
set_option maxRecDepth 100000 in
theorem sa_30 (c r : St) (l : List Int32) : (HP c r).set 30 (.inr (0, .inl l)) = HP (sA c 24 l) r := rfl
theorem ar_30 : AR 30 24 := ⟨by decide, fun c r => ⟨rfl, fun l => sa_30 c r l⟩⟩
set_option maxHeartbeats 4000000 in
set_option maxRecDepth 100000 in
theorem sa_31 (c r : St) (l : List Int32) : (HP c r).set 31 (.inr (0, .inl l)) = HP (sA c 25 l) r := rfl
theorem ar_31 : AR 31 25 := ⟨by decide, fun c r => ⟨rfl, fun l => sa_31 c r l⟩⟩
set_option maxHeartbeats 4000000 in
set_option maxRecDepth 100000 in
theorem sa_32 (c r : St) (l : List Int32) : (HP c r).set 32 (.inr (0, .inl l)) = HP (sA c 26 l) r := rfl
theorem ar_32 : AR 32 26 := ⟨by decide, fun c r => ⟨rfl, fun l => sa_32 c r l⟩⟩
set_option maxHeartbeats 4000000 in
set_option maxRecDepth 100000 in
theorem sa_33 (c r : St) (l : List Int32) : (HP c r).set 33 (.inr (0, .inl l)) = HP (sA c 27 l) r := rfl
theorem ar_33 : AR 33 27 := ⟨by decide, fun c r => ⟨rfl, fun l => sa_33 c r l⟩⟩
set_option maxHeartbeats 4000000 in
set_option maxRecDepth 100000 in
theorem sa_34 (c r : St) (l : List Int32) : (HP c r).set 34 (.inr (0, .inl l)) = HP (sA c 28 l) r := rfl
theorem ar_34 : AR 34 28 := ⟨by decide, fun c r => ⟨rfl, fun l => sa_34 c r l⟩⟩
set_option maxHeartbeats 4000000 in
set_option maxRecDepth 100000 in
theorem sa_35 (c r : St) (l : List Int32) : (HP c r).set 35 (.inr (0, .inl l)) = HP (sA c 29 l) r := rfl
theorem ar_35 : AR 35 29 := ⟨by decide, fun c r => ⟨rfl, fun l => sa_35 c r l⟩⟩
set_option maxHeartbeats 4000000 in
set_option maxRecDepth 100000 in
theorem sa_36 (c r : St) (l : List Int32) : (HP c r).set 36 (.inr (0, .inl l)) = HP (sA c 30 l) r := rfl
theorem ar_36 : AR 36 30 := ⟨by decide, fun c r => ⟨rfl, fun l => sa_36 c r l⟩⟩
set_option maxHeartbeats 4000000 in
set_option maxRecDepth 100000 in
theorem sa_37 (c r : St) (l : List Int32) : (HP c r).set 37 (.inr (0, .inl l)) = HP (sA c 31 l) r := rfl
theorem ar_37 : AR 37 31 := ⟨by decide, fun c r => ⟨rfl, fun l => sa_37 c r l⟩⟩
set_option maxHeartbeats 4000000 in
set_option maxRecDepth 100000 in
theorem sa_38 (c r : St) (l : List Int32) : (HP c r).set 38 (.inr (0, .inl l)) = HP (sA c 32 l) r := rfl
theorem ar_38 : AR 38 32 := ⟨by decide, fun c r => ⟨rfl, fun l => sa_38 c r l⟩⟩
set_option maxHeartbeats 4000000 in
set_option maxRecDepth 100000 in
theorem sa_39 (c r : St) (l : List Int32) : (HP c r).set 39 (.inr (0, .inl l)) = HP (sA c 33 l) r := rfl
theorem ar_39 : AR 39 33 := ⟨by decide, fun c r => ⟨rfl, fun l => sa_39 c r l⟩⟩
set_option maxHeartbeats 4000000 in
set_option maxRecDepth 100000 in
theorem st_40_1 (c r : St) (x : Int32) : (HP c r).set 40 (.inl (10, [.ref 41, .int x, .int (gI c 7), .int (gI c 8), .int (gI c 9), .int (gI c 10), .int (gI c 11), .ref 42, .ref 55, .ref 56, .ref 57, .ref 58, .int (gI c 12), .int (gI c 13), .int (gI c 14)])) = HP (sI c 6 x) r := rfl
set_option maxHeartbeats 4000000 in
set_option maxRecDepth 100000 in
theorem st_40_2 (c r : St) (x : Int32) : (HP c r).set 40 (.inl (10, [.ref 41, .int (gI c 6), .int x, .int (gI c 8), .int (gI c 9), .int (gI c 10), .int (gI c 11), .ref 42, .ref 55, .ref 56, .ref 57, .ref 58, .int (gI c 12), .int (gI c 13), .int (gI c 14)])) = HP (sI c 7 x) r := rfl
set_option maxHeartbeats 4000000 in
set_option maxRecDepth 100000 in
theorem st_40_3 (c r : St) (x : Int32) : (HP c r).set 40 (.inl (10, [.ref 41, .int (gI c 6), .int (gI c 7), .int x, .int (gI c 9), .int (gI c 10), .int (gI c 11), .ref 42, .ref 55, .ref 56, .ref 57, .ref 58, .int (gI c 12), .int (gI c 13), .int (gI c 14)])) = HP (sI c 8 x) r := rfl
set_option maxHeartbeats 4000000 in
set_option maxRecDepth 100000 in
theorem st_40_4 (c r : St) (x : Int32) : (HP c r).set 40 (.inl (10, [.ref 41, .int (gI c 6), .int (gI c 7), .int (gI c 8), .int x, .int (gI c 10), .int (gI c 11), .ref 42, .ref 55, .ref 56, .ref 57, .ref 58, .int (gI c 12), .int (gI c 13), .int (gI c 14)])) = HP (sI c 9 x) r := rfl
set_option maxHeartbeats 4000000 in
set_option maxRecDepth 100000 in
theorem st_40_5 (c r : St) (x : Int32) : (HP c r).set 40 (.inl (10, [.ref 41, .int (gI c 6), .int (gI c 7), .int (gI c 8), .int (gI c 9), .int x, .int (gI c 11), .ref 42, .ref 55, .ref 56, .ref 57, .ref 58, .int (gI c 12), .int (gI c 13), .int (gI c 14)])) = HP (sI c 10 x) r := rfl
set_option maxHeartbeats 4000000 in
set_option maxRecDepth 100000 in
theorem st_40_6 (c r : St) (x : Int32) : (HP c r).set 40 (.inl (10, [.ref 41, .int (gI c 6), .int (gI c 7), .int (gI c 8), .int (gI c 9), .int (gI c 10), .int x, .ref 42, .ref 55, .ref 56, .ref 57, .ref 58, .int (gI c 12), .int (gI c 13), .int (gI c 14)])) = HP (sI c 11 x) r := rfl
set_option maxHeartbeats 4000000 in
set_option maxRecDepth 100000 in
theorem st_40_12 (c r : St) (x : Int32) : (HP c r).set 40 (.inl (10, [.ref 41, .int (gI c 6), .int (gI c 7), .int (gI c 8), .int (gI c 9), .int (gI c 10), .int (gI c 11), .ref 42, .ref 55, .ref 56, .ref 57, .ref 58, .int x, .int (gI c 13), .int (gI c 14)])) = HP (sI c 12 x) r := rfl
set_option maxHeartbeats 4000000 in
set_option maxRecDepth 100000 in
theorem st_40_13 (c r : St) (x : Int32) : (HP c r).set 40 (.inl (10, [.ref 41, .int (gI c 6), .int (gI c 7), .int (gI c 8), .int (gI c 9), .int (gI c 10), .int (gI c 11), .ref 42, .ref 55, .ref 56, .ref 57, .ref 58, .int (gI c 12), .int x, .int (gI c 14)])) = HP (sI c 13 x) r := rfl
set_option maxHeartbeats 4000000 in
set_option maxRecDepth 100000 in
theorem st_40_14 (c r : St) (x : Int32) : (HP c r).set 40 (.inl (10, [.ref 41, .int (gI c 6), .int (gI c 7), .int (gI c 8), .int (gI c 9), .int (gI c 10), .int (gI c 11), .ref 42, .ref 55, .ref 56, .ref 57, .ref 58, .int (gI c 12), .int (gI c 13), .int x])) = HP (sI c 14 x) r := rfl
set_option maxHeartbeats 4000000 in
set_option maxRecDepth 100000 in
theorem sa_41 (c r : St) (l : List Int32) : (HP c r).set 41 (.inr (0, .inl l)) = HP (sA c 34 l) r := rfl
theorem ar_41 : AR 41 34 := ⟨by decide, fun c r => ⟨rfl, fun l => sa_41 c r l⟩⟩
set_option maxHeartbeats 4000000 in
set_option maxRecDepth 100000 in
theorem sa_43 (c r : St) (l : List Int32) : (HP c r).set 43 (.inr (0, .inl l)) = HP (sA c 35 l) r := rfl
theorem ar_43 : AR 43 35 := ⟨by decide, fun c r => ⟨rfl, fun l => sa_43 c r l⟩⟩
set_option maxHeartbeats 4000000 in
set_option maxRecDepth 100000 in
theorem sa_44 (c r : St) (l : List Int32) : (HP c r).set 44 (.inr (0, .inl l)) = HP (sA c 36 l) r := rfl
theorem ar_44 : AR 44 36 := ⟨by decide, fun c r => ⟨rfl, fun l => sa_44 c r l⟩⟩
set_option maxHeartbeats 4000000 in
set_option maxRecDepth 100000 in
theorem sa_45 (c r : St) (l : List Int32) : (HP c r).set 45 (.inr (0, .inl l)) = HP (sA c 37 l) r := rfl
theorem ar_45 : AR 45 37 := ⟨by decide, fun c r => ⟨rfl, fun l => sa_45 c r l⟩⟩
set_option maxHeartbeats 4000000 in
set_option maxRecDepth 100000 in
theorem sa_46 (c r : St) (l : List Int32) : (HP c r).set 46 (.inr (0, .inl l)) = HP (sA c 38 l) r := rfl
theorem ar_46 : AR 46 38 := ⟨by decide, fun c r => ⟨rfl, fun l => sa_46 c r l⟩⟩
set_option maxHeartbeats 4000000 in
set_option maxRecDepth 100000 in
theorem sa_47 (c r : St) (l : List Int32) : (HP c r).set 47 (.inr (0, .inl l)) = HP (sA c 39 l) r := rfl
theorem ar_47 : AR 47 39 := ⟨by decide, fun c r => ⟨rfl, fun l => sa_47 c r l⟩⟩
set_option maxHeartbeats 4000000 in
set_option maxRecDepth 100000 in
theorem sa_48 (c r : St) (l : List Int32) : (HP c r).set 48 (.inr (0, .inl l)) = HP (sA c 40 l) r := rfl
theorem ar_48 : AR 48 40 := ⟨by decide, fun c r => ⟨rfl, fun l => sa_48 c r l⟩⟩
set_option maxHeartbeats 4000000 in
set_option maxRecDepth 100000 in
theorem sa_49 (c r : St) (l : List Int32) : (HP c r).set 49 (.inr (0, .inl l)) = HP (sA c 41 l) r := rfl
theorem ar_49 : AR 49 41 := ⟨by decide, fun c r => ⟨rfl, fun l => sa_49 c r l⟩⟩
set_option maxHeartbeats 4000000 in
set_option maxRecDepth 100000 in
theorem sa_50 (c r : St) (l : List Int32) : (HP c r).set 50 (.inr (0, .inl l)) = HP (sA c 42 l) r := rfl
theorem ar_50 : AR 50 42 := ⟨by decide, fun c r => ⟨rfl, fun l => sa_50 c r l⟩⟩
set_option maxHeartbeats 4000000 in
set_option maxRecDepth 100000 in
theorem sa_51 (c r : St) (l : List Int32) : (HP c r).set 51 (.inr (0, .inl l)) = HP (sA c 43 l) r := rfl
theorem ar_51 : AR 51 43 := ⟨by decide, fun c r => ⟨rfl, fun l => sa_51 c r l⟩⟩
set_option maxHeartbeats 4000000 in
set_option maxRecDepth 100000 in
theorem sa_52 (c r : St) (l : List Int32) : (HP c r).set 52 (.inr (0, .inl l)) = HP (sA c 44 l) r := rfl
theorem ar_52 : AR 52 44 := ⟨by decide, fun c r => ⟨rfl, fun l => sa_52 c r l⟩⟩
set_option maxHeartbeats 4000000 in
set_option maxRecDepth 100000 in
theorem sa_53 (c r : St) (l : List Int32) : (HP c r).set 53 (.inr (0, .inl l)) = HP (sA c 45 l) r := rfl
theorem ar_53 : AR 53 45 := ⟨by decide, fun c r => ⟨rfl, fun l => sa_53 c r l⟩⟩
set_option maxHeartbeats 4000000 in
set_option maxRecDepth 100000 in
theorem sa_54 (c r : St) (l : List Int32) : (HP c r).set 54 (.inr (0, .inl l)) = HP (sA c 46 l) r := rfl
theorem ar_54 : AR 54 46 := ⟨by decide, fun c r => ⟨rfl, fun l => sa_54 c r l⟩⟩
set_option maxHeartbeats 4000000 in
set_option maxRecDepth 100000 in
theorem sa_55 (c r : St) (l : List Int32) : (HP c r).set 55 (.inr (0, .inl l)) = HP (sA c 47 l) r := rfl
theorem ar_55 : AR 55 47 := ⟨by decide, fun c r => ⟨rfl, fun l => sa_55 c r l⟩⟩
set_option maxHeartbeats 4000000 in
set_option maxRecDepth 100000 in
theorem sa_56 (c r : St) (l : List Int32) : (HP c r).set 56 (.inr (0, .inl l)) = HP (sA c 48 l) r := rfl
theorem ar_56 : AR 56 48 := ⟨by decide, fun c r => ⟨rfl, fun l => sa_56 c r l⟩⟩
set_option maxHeartbeats 4000000 in
set_option maxRecDepth 100000 in
theorem sa_57 (c r : St) (l : List Int64) : (HP c r).set 57 (.inr (3, .inr (.inl l))) = HP (sB c 0 l) r := rfl
set_option maxHeartbeats 4000000 in
set_option maxRecDepth 100000 in
theorem sa_58 (c r : St) (l : List Int64) : (HP c r).set 58 (.inr (3, .inr (.inl l))) = HP (sB c 1 l) r := rfl
set_option maxHeartbeats 4000000 in
set_option maxRecDepth 100000 in
theorem st_59_0 (c r : St) (x : Int32) : (HP c r).set 59 (.inl (7, [.int x, .int (gI c 16), .ref 60, .ref 61])) = HP (sI c 15 x) r := rfl
set_option maxHeartbeats 4000000 in
set_option maxRecDepth 100000 in
theorem st_59_1 (c r : St) (x : Int32) : (HP c r).set 59 (.inl (7, [.int (gI c 15), .int x, .ref 60, .ref 61])) = HP (sI c 16 x) r := rfl
set_option maxHeartbeats 4000000 in
set_option maxRecDepth 100000 in
theorem sa_60 (c r : St) (l : List Int32) : (HP c r).set 60 (.inr (0, .inl l)) = HP (sA c 49 l) r := rfl
theorem ar_60 : AR 60 49 := ⟨by decide, fun c r => ⟨rfl, fun l => sa_60 c r l⟩⟩
set_option maxHeartbeats 4000000 in
set_option maxRecDepth 100000 in
theorem sa_61 (c r : St) (l : List Int32) : (HP c r).set 61 (.inr (0, .inl l)) = HP (sA c 50 l) r := rfl
theorem ar_61 : AR 61 50 := ⟨by decide, fun c r => ⟨rfl, fun l => sa_61 c r l⟩⟩
set_option maxHeartbeats 4000000 in
set_option maxRecDepth 100000 in
theorem st_62_1 (c r : St) (x : Int32) : (HP c r).set 62 (.inl (9, [.ref 63, .int x, .int (gI c 18), .int (gI c 19), .int (gI c 20), .ref 64, .ref 65, .ref 66])) = HP (sI c 17 x) r := rfl
set_option maxHeartbeats 4000000 in
set_option maxRecDepth 100000 in
theorem st_62_2 (c r : St) (x : Int32) : (HP c r).set 62 (.inl (9, [.ref 63, .int (gI c 17), .int x, .int (gI c 19), .int (gI c 20), .ref 64, .ref 65, .ref 66])) = HP (sI c 18 x) r := rfl
set_option maxHeartbeats 4000000 in
set_option maxRecDepth 100000 in
theorem st_62_3 (c r : St) (x : Int32) : (HP c r).set 62 (.inl (9, [.ref 63, .int (gI c 17), .int (gI c 18), .int x, .int (gI c 20), .ref 64, .ref 65, .ref 66])) = HP (sI c 19 x) r := rfl
set_option maxHeartbeats 4000000 in
set_option maxRecDepth 100000 in
theorem st_62_4 (c r : St) (x : Int32) : (HP c r).set 62 (.inl (9, [.ref 63, .int (gI c 17), .int (gI c 18), .int (gI c 19), .int x, .ref 64, .ref 65, .ref 66])) = HP (sI c 20 x) r := rfl
set_option maxHeartbeats 4000000 in
set_option maxRecDepth 100000 in
theorem sa_63 (c r : St) (l : List Int32) : (HP c r).set 63 (.inr (0, .inl l)) = HP (sA c 51 l) r := rfl
theorem ar_63 : AR 63 51 := ⟨by decide, fun c r => ⟨rfl, fun l => sa_63 c r l⟩⟩
set_option maxHeartbeats 4000000 in
set_option maxRecDepth 100000 in
theorem sa_64 (c r : St) (l : List Int32) : (HP c r).set 64 (.inr (0, .inl l)) = HP (sA c 52 l) r := rfl
theorem ar_64 : AR 64 52 := ⟨by decide, fun c r => ⟨rfl, fun l => sa_64 c r l⟩⟩
set_option maxHeartbeats 4000000 in
set_option maxRecDepth 100000 in
theorem sa_65 (c r : St) (l : List Int32) : (HP c r).set 65 (.inr (0, .inl l)) = HP (sA c 53 l) r := rfl
theorem ar_65 : AR 65 53 := ⟨by decide, fun c r => ⟨rfl, fun l => sa_65 c r l⟩⟩
set_option maxHeartbeats 4000000 in
set_option maxRecDepth 100000 in
theorem sa_66 (c r : St) (l : List Int32) : (HP c r).set 66 (.inr (0, .inl l)) = HP (sA c 54 l) r := rfl
theorem ar_66 : AR 66 54 := ⟨by decide, fun c r => ⟨rfl, fun l => sa_66 c r l⟩⟩
set_option maxHeartbeats 4000000 in
set_option maxRecDepth 100000 in
theorem st_67_2 (c r : St) (x : Int32) : (HP c r).set 67 (.inl (2, [.ref 68, .ref 69, .int x, .int (gI c 22), .int (gI c 23), .ref 76, .ref 77, .ref 78, .ref 79, .ref 80, .ref 81])) = HP (sI c 21 x) r := rfl
set_option maxHeartbeats 4000000 in
set_option maxRecDepth 100000 in
theorem st_67_3 (c r : St) (x : Int32) : (HP c r).set 67 (.inl (2, [.ref 68, .ref 69, .int (gI c 21), .int x, .int (gI c 23), .ref 76, .ref 77, .ref 78, .ref 79, .ref 80, .ref 81])) = HP (sI c 22 x) r := rfl
set_option maxHeartbeats 4000000 in
set_option maxRecDepth 100000 in
theorem st_67_4 (c r : St) (x : Int32) : (HP c r).set 67 (.inl (2, [.ref 68, .ref 69, .int (gI c 21), .int (gI c 22), .int x, .ref 76, .ref 77, .ref 78, .ref 79, .ref 80, .ref 81])) = HP (sI c 23 x) r := rfl
set_option maxHeartbeats 4000000 in
set_option maxRecDepth 100000 in
theorem sa_68 (c r : St) (l : List Int32) : (HP c r).set 68 (.inr (0, .inl l)) = HP (sA c 55 l) r := rfl
theorem ar_68 : AR 68 55 := ⟨by decide, fun c r => ⟨rfl, fun l => sa_68 c r l⟩⟩
set_option maxHeartbeats 4000000 in
set_option maxRecDepth 100000 in
theorem sa_70 (c r : St) (l : List Int32) : (HP c r).set 70 (.inr (0, .inl l)) = HP (sA c 56 l) r := rfl
theorem ar_70 : AR 70 56 := ⟨by decide, fun c r => ⟨rfl, fun l => sa_70 c r l⟩⟩
set_option maxHeartbeats 4000000 in
set_option maxRecDepth 100000 in
theorem sa_71 (c r : St) (l : List Int32) : (HP c r).set 71 (.inr (0, .inl l)) = HP (sA c 57 l) r := rfl
theorem ar_71 : AR 71 57 := ⟨by decide, fun c r => ⟨rfl, fun l => sa_71 c r l⟩⟩
set_option maxHeartbeats 4000000 in
set_option maxRecDepth 100000 in
theorem sa_72 (c r : St) (l : List Int32) : (HP c r).set 72 (.inr (0, .inl l)) = HP (sA c 58 l) r := rfl
theorem ar_72 : AR 72 58 := ⟨by decide, fun c r => ⟨rfl, fun l => sa_72 c r l⟩⟩
set_option maxHeartbeats 4000000 in
set_option maxRecDepth 100000 in
theorem sa_73 (c r : St) (l : List Int32) : (HP c r).set 73 (.inr (0, .inl l)) = HP (sA c 59 l) r := rfl
theorem ar_73 : AR 73 59 := ⟨by decide, fun c r => ⟨rfl, fun l => sa_73 c r l⟩⟩
set_option maxHeartbeats 4000000 in
set_option maxRecDepth 100000 in
theorem sa_74 (c r : St) (l : List Int32) : (HP c r).set 74 (.inr (0, .inl l)) = HP (sA c 60 l) r := rfl
theorem ar_74 : AR 74 60 := ⟨by decide, fun c r => ⟨rfl, fun l => sa_74 c r l⟩⟩
set_option maxHeartbeats 4000000 in
set_option maxRecDepth 100000 in
theorem sa_75 (c r : St) (l : List Int32) : (HP c r).set 75 (.inr (0, .inl l)) = HP (sA c 61 l) r := rfl
theorem ar_75 : AR 75 61 := ⟨by decide, fun c r => ⟨rfl, fun l => sa_75 c r l⟩⟩
set_option maxHeartbeats 4000000 in
set_option maxRecDepth 100000 in
theorem sa_76 (c r : St) (l : List Int32) : (HP c r).set 76 (.inr (0, .inl l)) = HP (sA c 62 l) r := rfl
theorem ar_76 : AR 76 62 := ⟨by decide, fun c r => ⟨rfl, fun l => sa_76 c r l⟩⟩
set_option maxHeartbeats 4000000 in
set_option maxRecDepth 100000 in
theorem sa_77 (c r : St) (l : List Int32) : (HP c r).set 77 (.inr (0, .inl l)) = HP (sA c 63 l) r := rfl
theorem ar_77 : AR 77 63 := ⟨by decide, fun c r => ⟨rfl, fun l => sa_77 c r l⟩⟩
set_option maxHeartbeats 4000000 in
set_option maxRecDepth 100000 in
theorem sa_78 (c r : St) (l : List Int32) : (HP c r).set 78 (.inr (0, .inl l)) = HP (sA c 64 l) r := rfl
theorem ar_78 : AR 78 64 := ⟨by decide, fun c r => ⟨rfl, fun l => sa_78 c r l⟩⟩
set_option maxHeartbeats 4000000 in
set_option maxRecDepth 100000 in
theorem sa_79 (c r : St) (l : List Int32) : (HP c r).set 79 (.inr (0, .inl l)) = HP (sA c 65 l) r := rfl
theorem ar_79 : AR 79 65 := ⟨by decide, fun c r => ⟨rfl, fun l => sa_79 c r l⟩⟩
set_option maxHeartbeats 4000000 in
set_option maxRecDepth 100000 in
theorem sa_80 (c r : St) (l : List Int32) : (HP c r).set 80 (.inr (0, .inl l)) = HP (sA c 66 l) r := rfl
theorem ar_80 : AR 80 66 := ⟨by decide, fun c r => ⟨rfl, fun l => sa_80 c r l⟩⟩
set_option maxHeartbeats 4000000 in
set_option maxRecDepth 100000 in
theorem sa_81 (c r : St) (l : List Int32) : (HP c r).set 81 (.inr (0, .inl l)) = HP (sA c 67 l) r := rfl
theorem ar_81 : AR 81 67 := ⟨by decide, fun c r => ⟨rfl, fun l => sa_81 c r l⟩⟩
set_option maxHeartbeats 4000000 in
set_option maxRecDepth 100000 in
theorem st_82_1 (c r : St) (x : Int32) : (HP c r).set 82 (.inl (6, [.ref 83, .int x, .ref 84, .ref 85, .ref 86, .ref 87])) = HP (sI c 24 x) r := rfl
set_option maxHeartbeats 4000000 in
set_option maxRecDepth 100000 in
theorem sa_83 (c r : St) (l : List Int32) : (HP c r).set 83 (.inr (0, .inl l)) = HP (sA c 68 l) r := rfl
theorem ar_83 : AR 83 68 := ⟨by decide, fun c r => ⟨rfl, fun l => sa_83 c r l⟩⟩
set_option maxHeartbeats 4000000 in
set_option maxRecDepth 100000 in
theorem sa_84 (c r : St) (l : List Int32) : (HP c r).set 84 (.inr (0, .inl l)) = HP (sA c 69 l) r := rfl
theorem ar_84 : AR 84 69 := ⟨by decide, fun c r => ⟨rfl, fun l => sa_84 c r l⟩⟩
set_option maxHeartbeats 4000000 in
set_option maxRecDepth 100000 in
theorem sa_85 (c r : St) (l : List Int32) : (HP c r).set 85 (.inr (0, .inl l)) = HP (sA c 70 l) r := rfl
theorem ar_85 : AR 85 70 := ⟨by decide, fun c r => ⟨rfl, fun l => sa_85 c r l⟩⟩
set_option maxHeartbeats 4000000 in
set_option maxRecDepth 100000 in
theorem sa_86 (c r : St) (l : List Int32) : (HP c r).set 86 (.inr (0, .inl l)) = HP (sA c 71 l) r := rfl
theorem ar_86 : AR 86 71 := ⟨by decide, fun c r => ⟨rfl, fun l => sa_86 c r l⟩⟩
set_option maxHeartbeats 4000000 in
set_option maxRecDepth 100000 in
theorem sa_87 (c r : St) (l : List Int32) : (HP c r).set 87 (.inr (0, .inl l)) = HP (sA c 72 l) r := rfl
theorem ar_87 : AR 87 72 := ⟨by decide, fun c r => ⟨rfl, fun l => sa_87 c r l⟩⟩
set_option maxHeartbeats 4000000 in
set_option maxRecDepth 100000 in
theorem st_88_1 (c r : St) (x : Int32) : (HP c r).set 88 (.inl (3, [.ref 89, .int x, .int (gI c 26), .ref 98, .ref 99])) = HP (sI c 25 x) r := rfl
set_option maxHeartbeats 4000000 in
set_option maxRecDepth 100000 in
theorem st_88_2 (c r : St) (x : Int32) : (HP c r).set 88 (.inl (3, [.ref 89, .int (gI c 25), .int x, .ref 98, .ref 99])) = HP (sI c 26 x) r := rfl
set_option maxHeartbeats 4000000 in
set_option maxRecDepth 100000 in
theorem sa_90 (c r : St) (l : List Int32) : (HP c r).set 90 (.inr (0, .inl l)) = HP (sA c 73 l) r := rfl
theorem ar_90 : AR 90 73 := ⟨by decide, fun c r => ⟨rfl, fun l => sa_90 c r l⟩⟩
set_option maxHeartbeats 4000000 in
set_option maxRecDepth 100000 in
theorem sa_91 (c r : St) (l : List Int32) : (HP c r).set 91 (.inr (0, .inl l)) = HP (sA c 74 l) r := rfl
theorem ar_91 : AR 91 74 := ⟨by decide, fun c r => ⟨rfl, fun l => sa_91 c r l⟩⟩
set_option maxHeartbeats 4000000 in
set_option maxRecDepth 100000 in
theorem sa_92 (c r : St) (l : List Int32) : (HP c r).set 92 (.inr (0, .inl l)) = HP (sA c 75 l) r := rfl
theorem ar_92 : AR 92 75 := ⟨by decide, fun c r => ⟨rfl, fun l => sa_92 c r l⟩⟩
set_option maxHeartbeats 4000000 in
set_option maxRecDepth 100000 in
theorem sa_93 (c r : St) (l : List Int32) : (HP c r).set 93 (.inr (0, .inl l)) = HP (sA c 76 l) r := rfl
theorem ar_93 : AR 93 76 := ⟨by decide, fun c r => ⟨rfl, fun l => sa_93 c r l⟩⟩
set_option maxHeartbeats 4000000 in
set_option maxRecDepth 100000 in
theorem sa_94 (c r : St) (l : List Int32) : (HP c r).set 94 (.inr (0, .inl l)) = HP (sA c 77 l) r := rfl
theorem ar_94 : AR 94 77 := ⟨by decide, fun c r => ⟨rfl, fun l => sa_94 c r l⟩⟩
set_option maxHeartbeats 4000000 in
set_option maxRecDepth 100000 in
theorem sa_95 (c r : St) (l : List Int32) : (HP c r).set 95 (.inr (0, .inl l)) = HP (sA c 78 l) r := rfl
theorem ar_95 : AR 95 78 := ⟨by decide, fun c r => ⟨rfl, fun l => sa_95 c r l⟩⟩
set_option maxHeartbeats 4000000 in
set_option maxRecDepth 100000 in
theorem sa_96 (c r : St) (l : List Int32) : (HP c r).set 96 (.inr (0, .inl l)) = HP (sA c 79 l) r := rfl
theorem ar_96 : AR 96 79 := ⟨by decide, fun c r => ⟨rfl, fun l => sa_96 c r l⟩⟩
set_option maxHeartbeats 4000000 in
set_option maxRecDepth 100000 in
theorem sa_97 (c r : St) (l : List Int32) : (HP c r).set 97 (.inr (0, .inl l)) = HP (sA c 80 l) r := rfl
theorem ar_97 : AR 97 80 := ⟨by decide, fun c r => ⟨rfl, fun l => sa_97 c r l⟩⟩
set_option maxHeartbeats 4000000 in
set_option maxRecDepth 100000 in
theorem sa_98 (c r : St) (l : List Int32) : (HP c r).set 98 (.inr (0, .inl l)) = HP (sA c 81 l) r := rfl
theorem ar_98 : AR 98 81 := ⟨by decide, fun c r => ⟨rfl, fun l => sa_98 c r l⟩⟩
set_option maxHeartbeats 4000000 in
set_option maxRecDepth 100000 in
theorem sa_99 (c r : St) (l : List Int32) : (HP c r).set 99 (.inr (0, .inl l)) = HP (sA c 82 l) r := rfl
theorem ar_99 : AR 99 82 := ⟨by decide, fun c r => ⟨rfl, fun l => sa_99 c r l⟩⟩
set_option maxHeartbeats 4000000 in
set_option maxRecDepth 100000 in
theorem st_100_1 (c r : St) (x : Int32) : (HP c r).set 100 (.inl (8, [.ref 101, .int x, .ref 102, .ref 103])) = HP (sI c 27 x) r := rfl
set_option maxHeartbeats 4000000 in
set_option maxRecDepth 100000 in
theorem sa_101 (c r : St) (l : List Int32) : (HP c r).set 101 (.inr (0, .inl l)) = HP (sA c 83 l) r := rfl
theorem ar_101 : AR 101 83 := ⟨by decide, fun c r => ⟨rfl, fun l => sa_101 c r l⟩⟩
set_option maxHeartbeats 4000000 in
set_option maxRecDepth 100000 in
theorem sa_102 (c r : St) (l : List Int32) : (HP c r).set 102 (.inr (0, .inl l)) = HP (sA c 84 l) r := rfl
theorem ar_102 : AR 102 84 := ⟨by decide, fun c r => ⟨rfl, fun l => sa_102 c r l⟩⟩
set_option maxHeartbeats 4000000 in
set_option maxRecDepth 100000 in
theorem sa_103 (c r : St) (l : List Int32) : (HP c r).set 103 (.inr (0, .inl l)) = HP (sA c 85 l) r := rfl
theorem ar_103 : AR 103 85 := ⟨by decide, fun c r => ⟨rfl, fun l => sa_103 c r l⟩⟩
set_option maxHeartbeats 4000000 in
set_option maxRecDepth 100000 in
theorem st_104_1 (c r : St) (x : Int32) : (HP c r).set 104 (.inl (1, [.ref 105, .int x, .ref 114])) = HP (sI c 28 x) r := rfl
set_option maxHeartbeats 4000000 in
set_option maxRecDepth 100000 in
theorem sa_106 (c r : St) (l : List Int32) : (HP c r).set 106 (.inr (0, .inl l)) = HP (sA c 86 l) r := rfl
theorem ar_106 : AR 106 86 := ⟨by decide, fun c r => ⟨rfl, fun l => sa_106 c r l⟩⟩
set_option maxHeartbeats 4000000 in
set_option maxRecDepth 100000 in
theorem sa_107 (c r : St) (l : List Int32) : (HP c r).set 107 (.inr (0, .inl l)) = HP (sA c 87 l) r := rfl
theorem ar_107 : AR 107 87 := ⟨by decide, fun c r => ⟨rfl, fun l => sa_107 c r l⟩⟩
set_option maxHeartbeats 4000000 in
set_option maxRecDepth 100000 in
theorem sa_108 (c r : St) (l : List Int32) : (HP c r).set 108 (.inr (0, .inl l)) = HP (sA c 88 l) r := rfl
theorem ar_108 : AR 108 88 := ⟨by decide, fun c r => ⟨rfl, fun l => sa_108 c r l⟩⟩
set_option maxHeartbeats 4000000 in
set_option maxRecDepth 100000 in
theorem sa_109 (c r : St) (l : List Int32) : (HP c r).set 109 (.inr (0, .inl l)) = HP (sA c 89 l) r := rfl
theorem ar_109 : AR 109 89 := ⟨by decide, fun c r => ⟨rfl, fun l => sa_109 c r l⟩⟩
set_option maxHeartbeats 4000000 in
set_option maxRecDepth 100000 in
theorem sa_110 (c r : St) (l : List Int32) : (HP c r).set 110 (.inr (0, .inl l)) = HP (sA c 90 l) r := rfl
theorem ar_110 : AR 110 90 := ⟨by decide, fun c r => ⟨rfl, fun l => sa_110 c r l⟩⟩
set_option maxHeartbeats 4000000 in
set_option maxRecDepth 100000 in
theorem sa_111 (c r : St) (l : List Int32) : (HP c r).set 111 (.inr (0, .inl l)) = HP (sA c 91 l) r := rfl
theorem ar_111 : AR 111 91 := ⟨by decide, fun c r => ⟨rfl, fun l => sa_111 c r l⟩⟩
set_option maxHeartbeats 4000000 in
set_option maxRecDepth 100000 in
theorem sa_112 (c r : St) (l : List Int32) : (HP c r).set 112 (.inr (0, .inl l)) = HP (sA c 92 l) r := rfl
theorem ar_112 : AR 112 92 := ⟨by decide, fun c r => ⟨rfl, fun l => sa_112 c r l⟩⟩
set_option maxHeartbeats 4000000 in
set_option maxRecDepth 100000 in
theorem sa_113 (c r : St) (l : List Int32) : (HP c r).set 113 (.inr (0, .inl l)) = HP (sA c 93 l) r := rfl
theorem ar_113 : AR 113 93 := ⟨by decide, fun c r => ⟨rfl, fun l => sa_113 c r l⟩⟩
set_option maxHeartbeats 4000000 in
set_option maxRecDepth 100000 in
theorem sa_114 (c r : St) (l : List Int32) : (HP c r).set 114 (.inr (0, .inl l)) = HP (sA c 94 l) r := rfl
theorem ar_114 : AR 114 94 := ⟨by decide, fun c r => ⟨rfl, fun l => sa_114 c r l⟩⟩
set_option maxHeartbeats 4000000 in
set_option maxRecDepth 100000 in
theorem st_115_3 (c r : St) (x : Int32) : (HP c r).set 115 (.inl (12, [.ref 116, .ref 117, .ref 118, .int x, .int (gI r 1), .int (gI r 2), .int (gI r 3), .int (gI r 4), .int (gI r 5), .int (gI r 6), .ref 119, .ref 120, .int (gI r 7), .ref 121, .ref 122, .ref 123, .ref 124, .ref 125, .int (gI r 8), .ref 126, .int (gI r 9), .ref 127, .ref 128, .int (gI r 10), .ref 129, .ref 130, .int (gI r 11), .int (gI r 12), .ref 131, .int (gI r 13), .ref 132, .ref 133, .ref 134, .ref 135, .int (gI r 14), .int (gI r 15), .int (gI r 16), .int (gI r 17), .int (gI r 18), .int (gI r 19), .ref 136, .ref 137, .int (gI r 20), .ref 138, .ref 139, .ref 140, .int (gI r 21), .ref 141, .ref 142, .int (gI r 22), .int (gI r 23), .int (gI r 24), .int (gI r 25), .int (gI r 26), .ref 143, .ref 144, .ref 145, .ref 146, .ref 147, .int (gI r 27), .int (gI r 28), .int (gI r 29), .int (gI r 30), .int (gI r 31), .ref 148, .ref 149, .int (gI r 32), .ref 150, .ref 151, .ref 152, .int (gI r 33), .ref 153, .ref 154, .ref 155, .ref 156, .ref 157, .int (gI r 34), .long (gL r 0)])) = HP c (sI r 0 x) := rfl
set_option maxHeartbeats 4000000 in
set_option maxRecDepth 100000 in
theorem st_115_4 (c r : St) (x : Int32) : (HP c r).set 115 (.inl (12, [.ref 116, .ref 117, .ref 118, .int (gI r 0), .int x, .int (gI r 2), .int (gI r 3), .int (gI r 4), .int (gI r 5), .int (gI r 6), .ref 119, .ref 120, .int (gI r 7), .ref 121, .ref 122, .ref 123, .ref 124, .ref 125, .int (gI r 8), .ref 126, .int (gI r 9), .ref 127, .ref 128, .int (gI r 10), .ref 129, .ref 130, .int (gI r 11), .int (gI r 12), .ref 131, .int (gI r 13), .ref 132, .ref 133, .ref 134, .ref 135, .int (gI r 14), .int (gI r 15), .int (gI r 16), .int (gI r 17), .int (gI r 18), .int (gI r 19), .ref 136, .ref 137, .int (gI r 20), .ref 138, .ref 139, .ref 140, .int (gI r 21), .ref 141, .ref 142, .int (gI r 22), .int (gI r 23), .int (gI r 24), .int (gI r 25), .int (gI r 26), .ref 143, .ref 144, .ref 145, .ref 146, .ref 147, .int (gI r 27), .int (gI r 28), .int (gI r 29), .int (gI r 30), .int (gI r 31), .ref 148, .ref 149, .int (gI r 32), .ref 150, .ref 151, .ref 152, .int (gI r 33), .ref 153, .ref 154, .ref 155, .ref 156, .ref 157, .int (gI r 34), .long (gL r 0)])) = HP c (sI r 1 x) := rfl
set_option maxHeartbeats 4000000 in
set_option maxRecDepth 100000 in
theorem st_115_5 (c r : St) (x : Int32) : (HP c r).set 115 (.inl (12, [.ref 116, .ref 117, .ref 118, .int (gI r 0), .int (gI r 1), .int x, .int (gI r 3), .int (gI r 4), .int (gI r 5), .int (gI r 6), .ref 119, .ref 120, .int (gI r 7), .ref 121, .ref 122, .ref 123, .ref 124, .ref 125, .int (gI r 8), .ref 126, .int (gI r 9), .ref 127, .ref 128, .int (gI r 10), .ref 129, .ref 130, .int (gI r 11), .int (gI r 12), .ref 131, .int (gI r 13), .ref 132, .ref 133, .ref 134, .ref 135, .int (gI r 14), .int (gI r 15), .int (gI r 16), .int (gI r 17), .int (gI r 18), .int (gI r 19), .ref 136, .ref 137, .int (gI r 20), .ref 138, .ref 139, .ref 140, .int (gI r 21), .ref 141, .ref 142, .int (gI r 22), .int (gI r 23), .int (gI r 24), .int (gI r 25), .int (gI r 26), .ref 143, .ref 144, .ref 145, .ref 146, .ref 147, .int (gI r 27), .int (gI r 28), .int (gI r 29), .int (gI r 30), .int (gI r 31), .ref 148, .ref 149, .int (gI r 32), .ref 150, .ref 151, .ref 152, .int (gI r 33), .ref 153, .ref 154, .ref 155, .ref 156, .ref 157, .int (gI r 34), .long (gL r 0)])) = HP c (sI r 2 x) := rfl
set_option maxHeartbeats 4000000 in
set_option maxRecDepth 100000 in
theorem st_115_6 (c r : St) (x : Int32) : (HP c r).set 115 (.inl (12, [.ref 116, .ref 117, .ref 118, .int (gI r 0), .int (gI r 1), .int (gI r 2), .int x, .int (gI r 4), .int (gI r 5), .int (gI r 6), .ref 119, .ref 120, .int (gI r 7), .ref 121, .ref 122, .ref 123, .ref 124, .ref 125, .int (gI r 8), .ref 126, .int (gI r 9), .ref 127, .ref 128, .int (gI r 10), .ref 129, .ref 130, .int (gI r 11), .int (gI r 12), .ref 131, .int (gI r 13), .ref 132, .ref 133, .ref 134, .ref 135, .int (gI r 14), .int (gI r 15), .int (gI r 16), .int (gI r 17), .int (gI r 18), .int (gI r 19), .ref 136, .ref 137, .int (gI r 20), .ref 138, .ref 139, .ref 140, .int (gI r 21), .ref 141, .ref 142, .int (gI r 22), .int (gI r 23), .int (gI r 24), .int (gI r 25), .int (gI r 26), .ref 143, .ref 144, .ref 145, .ref 146, .ref 147, .int (gI r 27), .int (gI r 28), .int (gI r 29), .int (gI r 30), .int (gI r 31), .ref 148, .ref 149, .int (gI r 32), .ref 150, .ref 151, .ref 152, .int (gI r 33), .ref 153, .ref 154, .ref 155, .ref 156, .ref 157, .int (gI r 34), .long (gL r 0)])) = HP c (sI r 3 x) := rfl
set_option maxHeartbeats 4000000 in
set_option maxRecDepth 100000 in
theorem st_115_7 (c r : St) (x : Int32) : (HP c r).set 115 (.inl (12, [.ref 116, .ref 117, .ref 118, .int (gI r 0), .int (gI r 1), .int (gI r 2), .int (gI r 3), .int x, .int (gI r 5), .int (gI r 6), .ref 119, .ref 120, .int (gI r 7), .ref 121, .ref 122, .ref 123, .ref 124, .ref 125, .int (gI r 8), .ref 126, .int (gI r 9), .ref 127, .ref 128, .int (gI r 10), .ref 129, .ref 130, .int (gI r 11), .int (gI r 12), .ref 131, .int (gI r 13), .ref 132, .ref 133, .ref 134, .ref 135, .int (gI r 14), .int (gI r 15), .int (gI r 16), .int (gI r 17), .int (gI r 18), .int (gI r 19), .ref 136, .ref 137, .int (gI r 20), .ref 138, .ref 139, .ref 140, .int (gI r 21), .ref 141, .ref 142, .int (gI r 22), .int (gI r 23), .int (gI r 24), .int (gI r 25), .int (gI r 26), .ref 143, .ref 144, .ref 145, .ref 146, .ref 147, .int (gI r 27), .int (gI r 28), .int (gI r 29), .int (gI r 30), .int (gI r 31), .ref 148, .ref 149, .int (gI r 32), .ref 150, .ref 151, .ref 152, .int (gI r 33), .ref 153, .ref 154, .ref 155, .ref 156, .ref 157, .int (gI r 34), .long (gL r 0)])) = HP c (sI r 4 x) := rfl
set_option maxHeartbeats 4000000 in
set_option maxRecDepth 100000 in
theorem st_115_8 (c r : St) (x : Int32) : (HP c r).set 115 (.inl (12, [.ref 116, .ref 117, .ref 118, .int (gI r 0), .int (gI r 1), .int (gI r 2), .int (gI r 3), .int (gI r 4), .int x, .int (gI r 6), .ref 119, .ref 120, .int (gI r 7), .ref 121, .ref 122, .ref 123, .ref 124, .ref 125, .int (gI r 8), .ref 126, .int (gI r 9), .ref 127, .ref 128, .int (gI r 10), .ref 129, .ref 130, .int (gI r 11), .int (gI r 12), .ref 131, .int (gI r 13), .ref 132, .ref 133, .ref 134, .ref 135, .int (gI r 14), .int (gI r 15), .int (gI r 16), .int (gI r 17), .int (gI r 18), .int (gI r 19), .ref 136, .ref 137, .int (gI r 20), .ref 138, .ref 139, .ref 140, .int (gI r 21), .ref 141, .ref 142, .int (gI r 22), .int (gI r 23), .int (gI r 24), .int (gI r 25), .int (gI r 26), .ref 143, .ref 144, .ref 145, .ref 146, .ref 147, .int (gI r 27), .int (gI r 28), .int (gI r 29), .int (gI r 30), .int (gI r 31), .ref 148, .ref 149, .int (gI r 32), .ref 150, .ref 151, .ref 152, .int (gI r 33), .ref 153, .ref 154, .ref 155, .ref 156, .ref 157, .int (gI r 34), .long (gL r 0)])) = HP c (sI r 5 x) := rfl
set_option maxHeartbeats 4000000 in
set_option maxRecDepth 100000 in
theorem st_115_9 (c r : St) (x : Int32) : (HP c r).set 115 (.inl (12, [.ref 116, .ref 117, .ref 118, .int (gI r 0), .int (gI r 1), .int (gI r 2), .int (gI r 3), .int (gI r 4), .int (gI r 5), .int x, .ref 119, .ref 120, .int (gI r 7), .ref 121, .ref 122, .ref 123, .ref 124, .ref 125, .int (gI r 8), .ref 126, .int (gI r 9), .ref 127, .ref 128, .int (gI r 10), .ref 129, .ref 130, .int (gI r 11), .int (gI r 12), .ref 131, .int (gI r 13), .ref 132, .ref 133, .ref 134, .ref 135, .int (gI r 14), .int (gI r 15), .int (gI r 16), .int (gI r 17), .int (gI r 18), .int (gI r 19), .ref 136, .ref 137, .int (gI r 20), .ref 138, .ref 139, .ref 140, .int (gI r 21), .ref 141, .ref 142, .int (gI r 22), .int (gI r 23), .int (gI r 24), .int (gI r 25), .int (gI r 26), .ref 143, .ref 144, .ref 145, .ref 146, .ref 147, .int (gI r 27), .int (gI r 28), .int (gI r 29), .int (gI r 30), .int (gI r 31), .ref 148, .ref 149, .int (gI r 32), .ref 150, .ref 151, .ref 152, .int (gI r 33), .ref 153, .ref 154, .ref 155, .ref 156, .ref 157, .int (gI r 34), .long (gL r 0)])) = HP c (sI r 6 x) := rfl
set_option maxHeartbeats 4000000 in
set_option maxRecDepth 100000 in
theorem st_115_12 (c r : St) (x : Int32) : (HP c r).set 115 (.inl (12, [.ref 116, .ref 117, .ref 118, .int (gI r 0), .int (gI r 1), .int (gI r 2), .int (gI r 3), .int (gI r 4), .int (gI r 5), .int (gI r 6), .ref 119, .ref 120, .int x, .ref 121, .ref 122, .ref 123, .ref 124, .ref 125, .int (gI r 8), .ref 126, .int (gI r 9), .ref 127, .ref 128, .int (gI r 10), .ref 129, .ref 130, .int (gI r 11), .int (gI r 12), .ref 131, .int (gI r 13), .ref 132, .ref 133, .ref 134, .ref 135, .int (gI r 14), .int (gI r 15), .int (gI r 16), .int (gI r 17), .int (gI r 18), .int (gI r 19), .ref 136, .ref 137, .int (gI r 20), .ref 138, .ref 139, .ref 140, .int (gI r 21), .ref 141, .ref 142, .int (gI r 22), .int (gI r 23), .int (gI r 24), .int (gI r 25), .int (gI r 26), .ref 143, .ref 144, .ref 145, .ref 146, .ref 147, .int (gI r 27), .int (gI r 28), .int (gI r 29), .int (gI r 30), .int (gI r 31), .ref 148, .ref 149, .int (gI r 32), .ref 150, .ref 151, .ref 152, .int (gI r 33), .ref 153, .ref 154, .ref 155, .ref 156, .ref 157, .int (gI r 34), .long (gL r 0)])) = HP c (sI r 7 x) := rfl
set_option maxHeartbeats 4000000 in
set_option maxRecDepth 100000 in
theorem st_115_18 (c r : St) (x : Int32) : (HP c r).set 115 (.inl (12, [.ref 116, .ref 117, .ref 118, .int (gI r 0), .int (gI r 1), .int (gI r 2), .int (gI r 3), .int (gI r 4), .int (gI r 5), .int (gI r 6), .ref 119, .ref 120, .int (gI r 7), .ref 121, .ref 122, .ref 123, .ref 124, .ref 125, .int x, .ref 126, .int (gI r 9), .ref 127, .ref 128, .int (gI r 10), .ref 129, .ref 130, .int (gI r 11), .int (gI r 12), .ref 131, .int (gI r 13), .ref 132, .ref 133, .ref 134, .ref 135, .int (gI r 14), .int (gI r 15), .int (gI r 16), .int (gI r 17), .int (gI r 18), .int (gI r 19), .ref 136, .ref 137, .int (gI r 20), .ref 138, .ref 139, .ref 140, .int (gI r 21), .ref 141, .ref 142, .int (gI r 22), .int (gI r 23), .int (gI r 24), .int (gI r 25), .int (gI r 26), .ref 143, .ref 144, .ref 145, .ref 146, .ref 147, .int (gI r 27), .int (gI r 28), .int (gI r 29), .int (gI r 30), .int (gI r 31), .ref 148, .ref 149, .int (gI r 32), .ref 150, .ref 151, .ref 152, .int (gI r 33), .ref 153, .ref 154, .ref 155, .ref 156, .ref 157, .int (gI r 34), .long (gL r 0)])) = HP c (sI r 8 x) := rfl
set_option maxHeartbeats 4000000 in
set_option maxRecDepth 100000 in
theorem st_115_20 (c r : St) (x : Int32) : (HP c r).set 115 (.inl (12, [.ref 116, .ref 117, .ref 118, .int (gI r 0), .int (gI r 1), .int (gI r 2), .int (gI r 3), .int (gI r 4), .int (gI r 5), .int (gI r 6), .ref 119, .ref 120, .int (gI r 7), .ref 121, .ref 122, .ref 123, .ref 124, .ref 125, .int (gI r 8), .ref 126, .int x, .ref 127, .ref 128, .int (gI r 10), .ref 129, .ref 130, .int (gI r 11), .int (gI r 12), .ref 131, .int (gI r 13), .ref 132, .ref 133, .ref 134, .ref 135, .int (gI r 14), .int (gI r 15), .int (gI r 16), .int (gI r 17), .int (gI r 18), .int (gI r 19), .ref 136, .ref 137, .int (gI r 20), .ref 138, .ref 139, .ref 140, .int (gI r 21), .ref 141, .ref 142, .int (gI r 22), .int (gI r 23), .int (gI r 24), .int (gI r 25), .int (gI r 26), .ref 143, .ref 144, .ref 145, .ref 146, .ref 147, .int (gI r 27), .int (gI r 28), .int (gI r 29), .int (gI r 30), .int (gI r 31), .ref 148, .ref 149, .int (gI r 32), .ref 150, .ref 151, .ref 152, .int (gI r 33), .ref 153, .ref 154, .ref 155, .ref 156, .ref 157, .int (gI r 34), .long (gL r 0)])) = HP c (sI r 9 x) := rfl
set_option maxHeartbeats 4000000 in
set_option maxRecDepth 100000 in
theorem st_115_23 (c r : St) (x : Int32) : (HP c r).set 115 (.inl (12, [.ref 116, .ref 117, .ref 118, .int (gI r 0), .int (gI r 1), .int (gI r 2), .int (gI r 3), .int (gI r 4), .int (gI r 5), .int (gI r 6), .ref 119, .ref 120, .int (gI r 7), .ref 121, .ref 122, .ref 123, .ref 124, .ref 125, .int (gI r 8), .ref 126, .int (gI r 9), .ref 127, .ref 128, .int x, .ref 129, .ref 130, .int (gI r 11), .int (gI r 12), .ref 131, .int (gI r 13), .ref 132, .ref 133, .ref 134, .ref 135, .int (gI r 14), .int (gI r 15), .int (gI r 16), .int (gI r 17), .int (gI r 18), .int (gI r 19), .ref 136, .ref 137, .int (gI r 20), .ref 138, .ref 139, .ref 140, .int (gI r 21), .ref 141, .ref 142, .int (gI r 22), .int (gI r 23), .int (gI r 24), .int (gI r 25), .int (gI r 26), .ref 143, .ref 144, .ref 145, .ref 146, .ref 147, .int (gI r 27), .int (gI r 28), .int (gI r 29), .int (gI r 30), .int (gI r 31), .ref 148, .ref 149, .int (gI r 32), .ref 150, .ref 151, .ref 152, .int (gI r 33), .ref 153, .ref 154, .ref 155, .ref 156, .ref 157, .int (gI r 34), .long (gL r 0)])) = HP c (sI r 10 x) := rfl
set_option maxHeartbeats 4000000 in
set_option maxRecDepth 100000 in
theorem st_115_26 (c r : St) (x : Int32) : (HP c r).set 115 (.inl (12, [.ref 116, .ref 117, .ref 118, .int (gI r 0), .int (gI r 1), .int (gI r 2), .int (gI r 3), .int (gI r 4), .int (gI r 5), .int (gI r 6), .ref 119, .ref 120, .int (gI r 7), .ref 121, .ref 122, .ref 123, .ref 124, .ref 125, .int (gI r 8), .ref 126, .int (gI r 9), .ref 127, .ref 128, .int (gI r 10), .ref 129, .ref 130, .int x, .int (gI r 12), .ref 131, .int (gI r 13), .ref 132, .ref 133, .ref 134, .ref 135, .int (gI r 14), .int (gI r 15), .int (gI r 16), .int (gI r 17), .int (gI r 18), .int (gI r 19), .ref 136, .ref 137, .int (gI r 20), .ref 138, .ref 139, .ref 140, .int (gI r 21), .ref 141, .ref 142, .int (gI r 22), .int (gI r 23), .int (gI r 24), .int (gI r 25), .int (gI r 26), .ref 143, .ref 144, .ref 145, .ref 146, .ref 147, .int (gI r 27), .int (gI r 28), .int (gI r 29), .int (gI r 30), .int (gI r 31), .ref 148, .ref 149, .int (gI r 32), .ref 150, .ref 151, .ref 152, .int (gI r 33), .ref 153, .ref 154, .ref 155, .ref 156, .ref 157, .int (gI r 34), .long (gL r 0)])) = HP c (sI r 11 x) := rfl
set_option maxHeartbeats 4000000 in
set_option maxRecDepth 100000 in
theorem st_115_27 (c r : St) (x : Int32) : (HP c r).set 115 (.inl (12, [.ref 116, .ref 117, .ref 118, .int (gI r 0), .int (gI r 1), .int (gI r 2), .int (gI r 3), .int (gI r 4), .int (gI r 5), .int (gI r 6), .ref 119, .ref 120, .int (gI r 7), .ref 121, .ref 122, .ref 123, .ref 124, .ref 125, .int (gI r 8), .ref 126, .int (gI r 9), .ref 127, .ref 128, .int (gI r 10), .ref 129, .ref 130, .int (gI r 11), .int x, .ref 131, .int (gI r 13), .ref 132, .ref 133, .ref 134, .ref 135, .int (gI r 14), .int (gI r 15), .int (gI r 16), .int (gI r 17), .int (gI r 18), .int (gI r 19), .ref 136, .ref 137, .int (gI r 20), .ref 138, .ref 139, .ref 140, .int (gI r 21), .ref 141, .ref 142, .int (gI r 22), .int (gI r 23), .int (gI r 24), .int (gI r 25), .int (gI r 26), .ref 143, .ref 144, .ref 145, .ref 146, .ref 147, .int (gI r 27), .int (gI r 28), .int (gI r 29), .int (gI r 30), .int (gI r 31), .ref 148, .ref 149, .int (gI r 32), .ref 150, .ref 151, .ref 152, .int (gI r 33), .ref 153, .ref 154, .ref 155, .ref 156, .ref 157, .int (gI r 34), .long (gL r 0)])) = HP c (sI r 12 x) := rfl
set_option maxHeartbeats 4000000 in
set_option maxRecDepth 100000 in
theorem st_115_29 (c r : St) (x : Int32) : (HP c r).set 115 (.inl (12, [.ref 116, .ref 117, .ref 118, .int (gI r 0), .int (gI r 1), .int (gI r 2), .int (gI r 3), .int (gI r 4), .int (gI r 5), .int (gI r 6), .ref 119, .ref 120, .int (gI r 7), .ref 121, .ref 122, .ref 123, .ref 124, .ref 125, .int (gI r 8), .ref 126, .int (gI r 9), .ref 127, .ref 128, .int (gI r 10), .ref 129, .ref 130, .int (gI r 11), .int (gI r 12), .ref 131, .int x, .ref 132, .ref 133, .ref 134, .ref 135, .int (gI r 14), .int (gI r 15), .int (gI r 16), .int (gI r 17), .int (gI r 18), .int (gI r 19), .ref 136, .ref 137, .int (gI r 20), .ref 138, .ref 139, .ref 140, .int (gI r 21), .ref 141, .ref 142, .int (gI r 22), .int (gI r 23), .int (gI r 24), .int (gI r 25), .int (gI r 26), .ref 143, .ref 144, .ref 145, .ref 146, .ref 147, .int (gI r 27), .int (gI r 28), .int (gI r 29), .int (gI r 30), .int (gI r 31), .ref 148, .ref 149, .int (gI r 32), .ref 150, .ref 151, .ref 152, .int (gI r 33), .ref 153, .ref 154, .ref 155, .ref 156, .ref 157, .int (gI r 34), .long (gL r 0)])) = HP c (sI r 13 x) := rfl
set_option maxHeartbeats 4000000 in
set_option maxRecDepth 100000 in
theorem st_115_34 (c r : St) (x : Int32) : (HP c r).set 115 (.inl (12, [.ref 116, .ref 117, .ref 118, .int (gI r 0), .int (gI r 1), .int (gI r 2), .int (gI r 3), .int (gI r 4), .int (gI r 5), .int (gI r 6), .ref 119, .ref 120, .int (gI r 7), .ref 121, .ref 122, .ref 123, .ref 124, .ref 125, .int (gI r 8), .ref 126, .int (gI r 9), .ref 127, .ref 128, .int (gI r 10), .ref 129, .ref 130, .int (gI r 11), .int (gI r 12), .ref 131, .int (gI r 13), .ref 132, .ref 133, .ref 134, .ref 135, .int x, .int (gI r 15), .int (gI r 16), .int (gI r 17), .int (gI r 18), .int (gI r 19), .ref 136, .ref 137, .int (gI r 20), .ref 138, .ref 139, .ref 140, .int (gI r 21), .ref 141, .ref 142, .int (gI r 22), .int (gI r 23), .int (gI r 24), .int (gI r 25), .int (gI r 26), .ref 143, .ref 144, .ref 145, .ref 146, .ref 147, .int (gI r 27), .int (gI r 28), .int (gI r 29), .int (gI r 30), .int (gI r 31), .ref 148, .ref 149, .int (gI r 32), .ref 150, .ref 151, .ref 152, .int (gI r 33), .ref 153, .ref 154, .ref 155, .ref 156, .ref 157, .int (gI r 34), .long (gL r 0)])) = HP c (sI r 14 x) := rfl
set_option maxHeartbeats 4000000 in
set_option maxRecDepth 100000 in
theorem st_115_35 (c r : St) (x : Int32) : (HP c r).set 115 (.inl (12, [.ref 116, .ref 117, .ref 118, .int (gI r 0), .int (gI r 1), .int (gI r 2), .int (gI r 3), .int (gI r 4), .int (gI r 5), .int (gI r 6), .ref 119, .ref 120, .int (gI r 7), .ref 121, .ref 122, .ref 123, .ref 124, .ref 125, .int (gI r 8), .ref 126, .int (gI r 9), .ref 127, .ref 128, .int (gI r 10), .ref 129, .ref 130, .int (gI r 11), .int (gI r 12), .ref 131, .int (gI r 13), .ref 132, .ref 133, .ref 134, .ref 135, .int (gI r 14), .int x, .int (gI r 16), .int (gI r 17), .int (gI r 18), .int (gI r 19), .ref 136, .ref 137, .int (gI r 20), .ref 138, .ref 139, .ref 140, .int (gI r 21), .ref 141, .ref 142, .int (gI r 22), .int (gI r 23), .int (gI r 24), .int (gI r 25), .int (gI r 26), .ref 143, .ref 144, .ref 145, .ref 146, .ref 147, .int (gI r 27), .int (gI r 28), .int (gI r 29), .int (gI r 30), .int (gI r 31), .ref 148, .ref 149, .int (gI r 32), .ref 150, .ref 151, .ref 152, .int (gI r 33), .ref 153, .ref 154, .ref 155, .ref 156, .ref 157, .int (gI r 34), .long (gL r 0)])) = HP c (sI r 15 x) := rfl
set_option maxHeartbeats 4000000 in
set_option maxRecDepth 100000 in
theorem st_115_36 (c r : St) (x : Int32) : (HP c r).set 115 (.inl (12, [.ref 116, .ref 117, .ref 118, .int (gI r 0), .int (gI r 1), .int (gI r 2), .int (gI r 3), .int (gI r 4), .int (gI r 5), .int (gI r 6), .ref 119, .ref 120, .int (gI r 7), .ref 121, .ref 122, .ref 123, .ref 124, .ref 125, .int (gI r 8), .ref 126, .int (gI r 9), .ref 127, .ref 128, .int (gI r 10), .ref 129, .ref 130, .int (gI r 11), .int (gI r 12), .ref 131, .int (gI r 13), .ref 132, .ref 133, .ref 134, .ref 135, .int (gI r 14), .int (gI r 15), .int x, .int (gI r 17), .int (gI r 18), .int (gI r 19), .ref 136, .ref 137, .int (gI r 20), .ref 138, .ref 139, .ref 140, .int (gI r 21), .ref 141, .ref 142, .int (gI r 22), .int (gI r 23), .int (gI r 24), .int (gI r 25), .int (gI r 26), .ref 143, .ref 144, .ref 145, .ref 146, .ref 147, .int (gI r 27), .int (gI r 28), .int (gI r 29), .int (gI r 30), .int (gI r 31), .ref 148, .ref 149, .int (gI r 32), .ref 150, .ref 151, .ref 152, .int (gI r 33), .ref 153, .ref 154, .ref 155, .ref 156, .ref 157, .int (gI r 34), .long (gL r 0)])) = HP c (sI r 16 x) := rfl
set_option maxHeartbeats 4000000 in
set_option maxRecDepth 100000 in
theorem st_115_37 (c r : St) (x : Int32) : (HP c r).set 115 (.inl (12, [.ref 116, .ref 117, .ref 118, .int (gI r 0), .int (gI r 1), .int (gI r 2), .int (gI r 3), .int (gI r 4), .int (gI r 5), .int (gI r 6), .ref 119, .ref 120, .int (gI r 7), .ref 121, .ref 122, .ref 123, .ref 124, .ref 125, .int (gI r 8), .ref 126, .int (gI r 9), .ref 127, .ref 128, .int (gI r 10), .ref 129, .ref 130, .int (gI r 11), .int (gI r 12), .ref 131, .int (gI r 13), .ref 132, .ref 133, .ref 134, .ref 135, .int (gI r 14), .int (gI r 15), .int (gI r 16), .int x, .int (gI r 18), .int (gI r 19), .ref 136, .ref 137, .int (gI r 20), .ref 138, .ref 139, .ref 140, .int (gI r 21), .ref 141, .ref 142, .int (gI r 22), .int (gI r 23), .int (gI r 24), .int (gI r 25), .int (gI r 26), .ref 143, .ref 144, .ref 145, .ref 146, .ref 147, .int (gI r 27), .int (gI r 28), .int (gI r 29), .int (gI r 30), .int (gI r 31), .ref 148, .ref 149, .int (gI r 32), .ref 150, .ref 151, .ref 152, .int (gI r 33), .ref 153, .ref 154, .ref 155, .ref 156, .ref 157, .int (gI r 34), .long (gL r 0)])) = HP c (sI r 17 x) := rfl
set_option maxHeartbeats 4000000 in
set_option maxRecDepth 100000 in
theorem st_115_38 (c r : St) (x : Int32) : (HP c r).set 115 (.inl (12, [.ref 116, .ref 117, .ref 118, .int (gI r 0), .int (gI r 1), .int (gI r 2), .int (gI r 3), .int (gI r 4), .int (gI r 5), .int (gI r 6), .ref 119, .ref 120, .int (gI r 7), .ref 121, .ref 122, .ref 123, .ref 124, .ref 125, .int (gI r 8), .ref 126, .int (gI r 9), .ref 127, .ref 128, .int (gI r 10), .ref 129, .ref 130, .int (gI r 11), .int (gI r 12), .ref 131, .int (gI r 13), .ref 132, .ref 133, .ref 134, .ref 135, .int (gI r 14), .int (gI r 15), .int (gI r 16), .int (gI r 17), .int x, .int (gI r 19), .ref 136, .ref 137, .int (gI r 20), .ref 138, .ref 139, .ref 140, .int (gI r 21), .ref 141, .ref 142, .int (gI r 22), .int (gI r 23), .int (gI r 24), .int (gI r 25), .int (gI r 26), .ref 143, .ref 144, .ref 145, .ref 146, .ref 147, .int (gI r 27), .int (gI r 28), .int (gI r 29), .int (gI r 30), .int (gI r 31), .ref 148, .ref 149, .int (gI r 32), .ref 150, .ref 151, .ref 152, .int (gI r 33), .ref 153, .ref 154, .ref 155, .ref 156, .ref 157, .int (gI r 34), .long (gL r 0)])) = HP c (sI r 18 x) := rfl
set_option maxHeartbeats 4000000 in
set_option maxRecDepth 100000 in
theorem st_115_39 (c r : St) (x : Int32) : (HP c r).set 115 (.inl (12, [.ref 116, .ref 117, .ref 118, .int (gI r 0), .int (gI r 1), .int (gI r 2), .int (gI r 3), .int (gI r 4), .int (gI r 5), .int (gI r 6), .ref 119, .ref 120, .int (gI r 7), .ref 121, .ref 122, .ref 123, .ref 124, .ref 125, .int (gI r 8), .ref 126, .int (gI r 9), .ref 127, .ref 128, .int (gI r 10), .ref 129, .ref 130, .int (gI r 11), .int (gI r 12), .ref 131, .int (gI r 13), .ref 132, .ref 133, .ref 134, .ref 135, .int (gI r 14), .int (gI r 15), .int (gI r 16), .int (gI r 17), .int (gI r 18), .int x, .ref 136, .ref 137, .int (gI r 20), .ref 138, .ref 139, .ref 140, .int (gI r 21), .ref 141, .ref 142, .int (gI r 22), .int (gI r 23), .int (gI r 24), .int (gI r 25), .int (gI r 26), .ref 143, .ref 144, .ref 145, .ref 146, .ref 147, .int (gI r 27), .int (gI r 28), .int (gI r 29), .int (gI r 30), .int (gI r 31), .ref 148, .ref 149, .int (gI r 32), .ref 150, .ref 151, .ref 152, .int (gI r 33), .ref 153, .ref 154, .ref 155, .ref 156, .ref 157, .int (gI r 34), .long (gL r 0)])) = HP c (sI r 19 x) := rfl
set_option maxHeartbeats 4000000 in
set_option maxRecDepth 100000 in
theorem st_115_42 (c r : St) (x : Int32) : (HP c r).set 115 (.inl (12, [.ref 116, .ref 117, .ref 118, .int (gI r 0), .int (gI r 1), .int (gI r 2), .int (gI r 3), .int (gI r 4), .int (gI r 5), .int (gI r 6), .ref 119, .ref 120, .int (gI r 7), .ref 121, .ref 122, .ref 123, .ref 124, .ref 125, .int (gI r 8), .ref 126, .int (gI r 9), .ref 127, .ref 128, .int (gI r 10), .ref 129, .ref 130, .int (gI r 11), .int (gI r 12), .ref 131, .int (gI r 13), .ref 132, .ref 133, .ref 134, .ref 135, .int (gI r 14), .int (gI r 15), .int (gI r 16), .int (gI r 17), .int (gI r 18), .int (gI r 19), .ref 136, .ref 137, .int x, .ref 138, .ref 139, .ref 140, .int (gI r 21), .ref 141, .ref 142, .int (gI r 22), .int (gI r 23), .int (gI r 24), .int (gI r 25), .int (gI r 26), .ref 143, .ref 144, .ref 145, .ref 146, .ref 147, .int (gI r 27), .int (gI r 28), .int (gI r 29), .int (gI r 30), .int (gI r 31), .ref 148, .ref 149, .int (gI r 32), .ref 150, .ref 151, .ref 152, .int (gI r 33), .ref 153, .ref 154, .ref 155, .ref 156, .ref 157, .int (gI r 34), .long (gL r 0)])) = HP c (sI r 20 x) := rfl
set_option maxHeartbeats 4000000 in
set_option maxRecDepth 100000 in
theorem st_115_46 (c r : St) (x : Int32) : (HP c r).set 115 (.inl (12, [.ref 116, .ref 117, .ref 118, .int (gI r 0), .int (gI r 1), .int (gI r 2), .int (gI r 3), .int (gI r 4), .int (gI r 5), .int (gI r 6), .ref 119, .ref 120, .int (gI r 7), .ref 121, .ref 122, .ref 123, .ref 124, .ref 125, .int (gI r 8), .ref 126, .int (gI r 9), .ref 127, .ref 128, .int (gI r 10), .ref 129, .ref 130, .int (gI r 11), .int (gI r 12), .ref 131, .int (gI r 13), .ref 132, .ref 133, .ref 134, .ref 135, .int (gI r 14), .int (gI r 15), .int (gI r 16), .int (gI r 17), .int (gI r 18), .int (gI r 19), .ref 136, .ref 137, .int (gI r 20), .ref 138, .ref 139, .ref 140, .int x, .ref 141, .ref 142, .int (gI r 22), .int (gI r 23), .int (gI r 24), .int (gI r 25), .int (gI r 26), .ref 143, .ref 144, .ref 145, .ref 146, .ref 147, .int (gI r 27), .int (gI r 28), .int (gI r 29), .int (gI r 30), .int (gI r 31), .ref 148, .ref 149, .int (gI r 32), .ref 150, .ref 151, .ref 152, .int (gI r 33), .ref 153, .ref 154, .ref 155, .ref 156, .ref 157, .int (gI r 34), .long (gL r 0)])) = HP c (sI r 21 x) := rfl
set_option maxHeartbeats 4000000 in
set_option maxRecDepth 100000 in
theorem st_115_49 (c r : St) (x : Int32) : (HP c r).set 115 (.inl (12, [.ref 116, .ref 117, .ref 118, .int (gI r 0), .int (gI r 1), .int (gI r 2), .int (gI r 3), .int (gI r 4), .int (gI r 5), .int (gI r 6), .ref 119, .ref 120, .int (gI r 7), .ref 121, .ref 122, .ref 123, .ref 124, .ref 125, .int (gI r 8), .ref 126, .int (gI r 9), .ref 127, .ref 128, .int (gI r 10), .ref 129, .ref 130, .int (gI r 11), .int (gI r 12), .ref 131, .int (gI r 13), .ref 132, .ref 133, .ref 134, .ref 135, .int (gI r 14), .int (gI r 15), .int (gI r 16), .int (gI r 17), .int (gI r 18), .int (gI r 19), .ref 136, .ref 137, .int (gI r 20), .ref 138, .ref 139, .ref 140, .int (gI r 21), .ref 141, .ref 142, .int x, .int (gI r 23), .int (gI r 24), .int (gI r 25), .int (gI r 26), .ref 143, .ref 144, .ref 145, .ref 146, .ref 147, .int (gI r 27), .int (gI r 28), .int (gI r 29), .int (gI r 30), .int (gI r 31), .ref 148, .ref 149, .int (gI r 32), .ref 150, .ref 151, .ref 152, .int (gI r 33), .ref 153, .ref 154, .ref 155, .ref 156, .ref 157, .int (gI r 34), .long (gL r 0)])) = HP c (sI r 22 x) := rfl
set_option maxHeartbeats 4000000 in
set_option maxRecDepth 100000 in
theorem st_115_50 (c r : St) (x : Int32) : (HP c r).set 115 (.inl (12, [.ref 116, .ref 117, .ref 118, .int (gI r 0), .int (gI r 1), .int (gI r 2), .int (gI r 3), .int (gI r 4), .int (gI r 5), .int (gI r 6), .ref 119, .ref 120, .int (gI r 7), .ref 121, .ref 122, .ref 123, .ref 124, .ref 125, .int (gI r 8), .ref 126, .int (gI r 9), .ref 127, .ref 128, .int (gI r 10), .ref 129, .ref 130, .int (gI r 11), .int (gI r 12), .ref 131, .int (gI r 13), .ref 132, .ref 133, .ref 134, .ref 135, .int (gI r 14), .int (gI r 15), .int (gI r 16), .int (gI r 17), .int (gI r 18), .int (gI r 19), .ref 136, .ref 137, .int (gI r 20), .ref 138, .ref 139, .ref 140, .int (gI r 21), .ref 141, .ref 142, .int (gI r 22), .int x, .int (gI r 24), .int (gI r 25), .int (gI r 26), .ref 143, .ref 144, .ref 145, .ref 146, .ref 147, .int (gI r 27), .int (gI r 28), .int (gI r 29), .int (gI r 30), .int (gI r 31), .ref 148, .ref 149, .int (gI r 32), .ref 150, .ref 151, .ref 152, .int (gI r 33), .ref 153, .ref 154, .ref 155, .ref 156, .ref 157, .int (gI r 34), .long (gL r 0)])) = HP c (sI r 23 x) := rfl
set_option maxHeartbeats 4000000 in
set_option maxRecDepth 100000 in
theorem st_115_51 (c r : St) (x : Int32) : (HP c r).set 115 (.inl (12, [.ref 116, .ref 117, .ref 118, .int (gI r 0), .int (gI r 1), .int (gI r 2), .int (gI r 3), .int (gI r 4), .int (gI r 5), .int (gI r 6), .ref 119, .ref 120, .int (gI r 7), .ref 121, .ref 122, .ref 123, .ref 124, .ref 125, .int (gI r 8), .ref 126, .int (gI r 9), .ref 127, .ref 128, .int (gI r 10), .ref 129, .ref 130, .int (gI r 11), .int (gI r 12), .ref 131, .int (gI r 13), .ref 132, .ref 133, .ref 134, .ref 135, .int (gI r 14), .int (gI r 15), .int (gI r 16), .int (gI r 17), .int (gI r 18), .int (gI r 19), .ref 136, .ref 137, .int (gI r 20), .ref 138, .ref 139, .ref 140, .int (gI r 21), .ref 141, .ref 142, .int (gI r 22), .int (gI r 23), .int x, .int (gI r 25), .int (gI r 26), .ref 143, .ref 144, .ref 145, .ref 146, .ref 147, .int (gI r 27), .int (gI r 28), .int (gI r 29), .int (gI r 30), .int (gI r 31), .ref 148, .ref 149, .int (gI r 32), .ref 150, .ref 151, .ref 152, .int (gI r 33), .ref 153, .ref 154, .ref 155, .ref 156, .ref 157, .int (gI r 34), .long (gL r 0)])) = HP c (sI r 24 x) := rfl
set_option maxHeartbeats 4000000 in
set_option maxRecDepth 100000 in
theorem st_115_52 (c r : St) (x : Int32) : (HP c r).set 115 (.inl (12, [.ref 116, .ref 117, .ref 118, .int (gI r 0), .int (gI r 1), .int (gI r 2), .int (gI r 3), .int (gI r 4), .int (gI r 5), .int (gI r 6), .ref 119, .ref 120, .int (gI r 7), .ref 121, .ref 122, .ref 123, .ref 124, .ref 125, .int (gI r 8), .ref 126, .int (gI r 9), .ref 127, .ref 128, .int (gI r 10), .ref 129, .ref 130, .int (gI r 11), .int (gI r 12), .ref 131, .int (gI r 13), .ref 132, .ref 133, .ref 134, .ref 135, .int (gI r 14), .int (gI r 15), .int (gI r 16), .int (gI r 17), .int (gI r 18), .int (gI r 19), .ref 136, .ref 137, .int (gI r 20), .ref 138, .ref 139, .ref 140, .int (gI r 21), .ref 141, .ref 142, .int (gI r 22), .int (gI r 23), .int (gI r 24), .int x, .int (gI r 26), .ref 143, .ref 144, .ref 145, .ref 146, .ref 147, .int (gI r 27), .int (gI r 28), .int (gI r 29), .int (gI r 30), .int (gI r 31), .ref 148, .ref 149, .int (gI r 32), .ref 150, .ref 151, .ref 152, .int (gI r 33), .ref 153, .ref 154, .ref 155, .ref 156, .ref 157, .int (gI r 34), .long (gL r 0)])) = HP c (sI r 25 x) := rfl
set_option maxHeartbeats 4000000 in
set_option maxRecDepth 100000 in
theorem st_115_53 (c r : St) (x : Int32) : (HP c r).set 115 (.inl (12, [.ref 116, .ref 117, .ref 118, .int (gI r 0), .int (gI r 1), .int (gI r 2), .int (gI r 3), .int (gI r 4), .int (gI r 5), .int (gI r 6), .ref 119, .ref 120, .int (gI r 7), .ref 121, .ref 122, .ref 123, .ref 124, .ref 125, .int (gI r 8), .ref 126, .int (gI r 9), .ref 127, .ref 128, .int (gI r 10), .ref 129, .ref 130, .int (gI r 11), .int (gI r 12), .ref 131, .int (gI r 13), .ref 132, .ref 133, .ref 134, .ref 135, .int (gI r 14), .int (gI r 15), .int (gI r 16), .int (gI r 17), .int (gI r 18), .int (gI r 19), .ref 136, .ref 137, .int (gI r 20), .ref 138, .ref 139, .ref 140, .int (gI r 21), .ref 141, .ref 142, .int (gI r 22), .int (gI r 23), .int (gI r 24), .int (gI r 25), .int x, .ref 143, .ref 144, .ref 145, .ref 146, .ref 147, .int (gI r 27), .int (gI r 28), .int (gI r 29), .int (gI r 30), .int (gI r 31), .ref 148, .ref 149, .int (gI r 32), .ref 150, .ref 151, .ref 152, .int (gI r 33), .ref 153, .ref 154, .ref 155, .ref 156, .ref 157, .int (gI r 34), .long (gL r 0)])) = HP c (sI r 26 x) := rfl
set_option maxHeartbeats 4000000 in
set_option maxRecDepth 100000 in
theorem st_115_59 (c r : St) (x : Int32) : (HP c r).set 115 (.inl (12, [.ref 116, .ref 117, .ref 118, .int (gI r 0), .int (gI r 1), .int (gI r 2), .int (gI r 3), .int (gI r 4), .int (gI r 5), .int (gI r 6), .ref 119, .ref 120, .int (gI r 7), .ref 121, .ref 122, .ref 123, .ref 124, .ref 125, .int (gI r 8), .ref 126, .int (gI r 9), .ref 127, .ref 128, .int (gI r 10), .ref 129, .ref 130, .int (gI r 11), .int (gI r 12), .ref 131, .int (gI r 13), .ref 132, .ref 133, .ref 134, .ref 135, .int (gI r 14), .int (gI r 15), .int (gI r 16), .int (gI r 17), .int (gI r 18), .int (gI r 19), .ref 136, .ref 137, .int (gI r 20), .ref 138, .ref 139, .ref 140, .int (gI r 21), .ref 141, .ref 142, .int (gI r 22), .int (gI r 23), .int (gI r 24), .int (gI r 25), .int (gI r 26), .ref 143, .ref 144, .ref 145, .ref 146, .ref 147, .int x, .int (gI r 28), .int (gI r 29), .int (gI r 30), .int (gI r 31), .ref 148, .ref 149, .int (gI r 32), .ref 150, .ref 151, .ref 152, .int (gI r 33), .ref 153, .ref 154, .ref 155, .ref 156, .ref 157, .int (gI r 34), .long (gL r 0)])) = HP c (sI r 27 x) := rfl
set_option maxHeartbeats 4000000 in
set_option maxRecDepth 100000 in
theorem st_115_60 (c r : St) (x : Int32) : (HP c r).set 115 (.inl (12, [.ref 116, .ref 117, .ref 118, .int (gI r 0), .int (gI r 1), .int (gI r 2), .int (gI r 3), .int (gI r 4), .int (gI r 5), .int (gI r 6), .ref 119, .ref 120, .int (gI r 7), .ref 121, .ref 122, .ref 123, .ref 124, .ref 125, .int (gI r 8), .ref 126, .int (gI r 9), .ref 127, .ref 128, .int (gI r 10), .ref 129, .ref 130, .int (gI r 11), .int (gI r 12), .ref 131, .int (gI r 13), .ref 132, .ref 133, .ref 134, .ref 135, .int (gI r 14), .int (gI r 15), .int (gI r 16), .int (gI r 17), .int (gI r 18), .int (gI r 19), .ref 136, .ref 137, .int (gI r 20), .ref 138, .ref 139, .ref 140, .int (gI r 21), .ref 141, .ref 142, .int (gI r 22), .int (gI r 23), .int (gI r 24), .int (gI r 25), .int (gI r 26), .ref 143, .ref 144, .ref 145, .ref 146, .ref 147, .int (gI r 27), .int x, .int (gI r 29), .int (gI r 30), .int (gI r 31), .ref 148, .ref 149, .int (gI r 32), .ref 150, .ref 151, .ref 152, .int (gI r 33), .ref 153, .ref 154, .ref 155, .ref 156, .ref 157, .int (gI r 34), .long (gL r 0)])) = HP c (sI r 28 x) := rfl
set_option maxHeartbeats 4000000 in
set_option maxRecDepth 100000 in
theorem st_115_61 (c r : St) (x : Int32) : (HP c r).set 115 (.inl (12, [.ref 116, .ref 117, .ref 118, .int (gI r 0), .int (gI r 1), .int (gI r 2), .int (gI r 3), .int (gI r 4), .int (gI r 5), .int (gI r 6), .ref 119, .ref 120, .int (gI r 7), .ref 121, .ref 122, .ref 123, .ref 124, .ref 125, .int (gI r 8), .ref 126, .int (gI r 9), .ref 127, .ref 128, .int (gI r 10), .ref 129, .ref 130, .int (gI r 11), .int (gI r 12), .ref 131, .int (gI r 13), .ref 132, .ref 133, .ref 134, .ref 135, .int (gI r 14), .int (gI r 15), .int (gI r 16), .int (gI r 17), .int (gI r 18), .int (gI r 19), .ref 136, .ref 137, .int (gI r 20), .ref 138, .ref 139, .ref 140, .int (gI r 21), .ref 141, .ref 142, .int (gI r 22), .int (gI r 23), .int (gI r 24), .int (gI r 25), .int (gI r 26), .ref 143, .ref 144, .ref 145, .ref 146, .ref 147, .int (gI r 27), .int (gI r 28), .int x, .int (gI r 30), .int (gI r 31), .ref 148, .ref 149, .int (gI r 32), .ref 150, .ref 151, .ref 152, .int (gI r 33), .ref 153, .ref 154, .ref 155, .ref 156, .ref 157, .int (gI r 34), .long (gL r 0)])) = HP c (sI r 29 x) := rfl
set_option maxHeartbeats 4000000 in
set_option maxRecDepth 100000 in
theorem st_115_62 (c r : St) (x : Int32) : (HP c r).set 115 (.inl (12, [.ref 116, .ref 117, .ref 118, .int (gI r 0), .int (gI r 1), .int (gI r 2), .int (gI r 3), .int (gI r 4), .int (gI r 5), .int (gI r 6), .ref 119, .ref 120, .int (gI r 7), .ref 121, .ref 122, .ref 123, .ref 124, .ref 125, .int (gI r 8), .ref 126, .int (gI r 9), .ref 127, .ref 128, .int (gI r 10), .ref 129, .ref 130, .int (gI r 11), .int (gI r 12), .ref 131, .int (gI r 13), .ref 132, .ref 133, .ref 134, .ref 135, .int (gI r 14), .int (gI r 15), .int (gI r 16), .int (gI r 17), .int (gI r 18), .int (gI r 19), .ref 136, .ref 137, .int (gI r 20), .ref 138, .ref 139, .ref 140, .int (gI r 21), .ref 141, .ref 142, .int (gI r 22), .int (gI r 23), .int (gI r 24), .int (gI r 25), .int (gI r 26), .ref 143, .ref 144, .ref 145, .ref 146, .ref 147, .int (gI r 27), .int (gI r 28), .int (gI r 29), .int x, .int (gI r 31), .ref 148, .ref 149, .int (gI r 32), .ref 150, .ref 151, .ref 152, .int (gI r 33), .ref 153, .ref 154, .ref 155, .ref 156, .ref 157, .int (gI r 34), .long (gL r 0)])) = HP c (sI r 30 x) := rfl
set_option maxHeartbeats 4000000 in
set_option maxRecDepth 100000 in
theorem st_115_63 (c r : St) (x : Int32) : (HP c r).set 115 (.inl (12, [.ref 116, .ref 117, .ref 118, .int (gI r 0), .int (gI r 1), .int (gI r 2), .int (gI r 3), .int (gI r 4), .int (gI r 5), .int (gI r 6), .ref 119, .ref 120, .int (gI r 7), .ref 121, .ref 122, .ref 123, .ref 124, .ref 125, .int (gI r 8), .ref 126, .int (gI r 9), .ref 127, .ref 128, .int (gI r 10), .ref 129, .ref 130, .int (gI r 11), .int (gI r 12), .ref 131, .int (gI r 13), .ref 132, .ref 133, .ref 134, .ref 135, .int (gI r 14), .int (gI r 15), .int (gI r 16), .int (gI r 17), .int (gI r 18), .int (gI r 19), .ref 136, .ref 137, .int (gI r 20), .ref 138, .ref 139, .ref 140, .int (gI r 21), .ref 141, .ref 142, .int (gI r 22), .int (gI r 23), .int (gI r 24), .int (gI r 25), .int (gI r 26), .ref 143, .ref 144, .ref 145, .ref 146, .ref 147, .int (gI r 27), .int (gI r 28), .int (gI r 29), .int (gI r 30), .int x, .ref 148, .ref 149, .int (gI r 32), .ref 150, .ref 151, .ref 152, .int (gI r 33), .ref 153, .ref 154, .ref 155, .ref 156, .ref 157, .int (gI r 34), .long (gL r 0)])) = HP c (sI r 31 x) := rfl
set_option maxHeartbeats 4000000 in
set_option maxRecDepth 100000 in
theorem st_115_66 (c r : St) (x : Int32) : (HP c r).set 115 (.inl (12, [.ref 116, .ref 117, .ref 118, .int (gI r 0), .int (gI r 1), .int (gI r 2), .int (gI r 3), .int (gI r 4), .int (gI r 5), .int (gI r 6), .ref 119, .ref 120, .int (gI r 7), .ref 121, .ref 122, .ref 123, .ref 124, .ref 125, .int (gI r 8), .ref 126, .int (gI r 9), .ref 127, .ref 128, .int (gI r 10), .ref 129, .ref 130, .int (gI r 11), .int (gI r 12), .ref 131, .int (gI r 13), .ref 132, .ref 133, .ref 134, .ref 135, .int (gI r 14), .int (gI r 15), .int (gI r 16), .int (gI r 17), .int (gI r 18), .int (gI r 19), .ref 136, .ref 137, .int (gI r 20), .ref 138, .ref 139, .ref 140, .int (gI r 21), .ref 141, .ref 142, .int (gI r 22), .int (gI r 23), .int (gI r 24), .int (gI r 25), .int (gI r 26), .ref 143, .ref 144, .ref 145, .ref 146, .ref 147, .int (gI r 27), .int (gI r 28), .int (gI r 29), .int (gI r 30), .int (gI r 31), .ref 148, .ref 149, .int x, .ref 150, .ref 151, .ref 152, .int (gI r 33), .ref 153, .ref 154, .ref 155, .ref 156, .ref 157, .int (gI r 34), .long (gL r 0)])) = HP c (sI r 32 x) := rfl
set_option maxHeartbeats 4000000 in
set_option maxRecDepth 100000 in
theorem st_115_70 (c r : St) (x : Int32) : (HP c r).set 115 (.inl (12, [.ref 116, .ref 117, .ref 118, .int (gI r 0), .int (gI r 1), .int (gI r 2), .int (gI r 3), .int (gI r 4), .int (gI r 5), .int (gI r 6), .ref 119, .ref 120, .int (gI r 7), .ref 121, .ref 122, .ref 123, .ref 124, .ref 125, .int (gI r 8), .ref 126, .int (gI r 9), .ref 127, .ref 128, .int (gI r 10), .ref 129, .ref 130, .int (gI r 11), .int (gI r 12), .ref 131, .int (gI r 13), .ref 132, .ref 133, .ref 134, .ref 135, .int (gI r 14), .int (gI r 15), .int (gI r 16), .int (gI r 17), .int (gI r 18), .int (gI r 19), .ref 136, .ref 137, .int (gI r 20), .ref 138, .ref 139, .ref 140, .int (gI r 21), .ref 141, .ref 142, .int (gI r 22), .int (gI r 23), .int (gI r 24), .int (gI r 25), .int (gI r 26), .ref 143, .ref 144, .ref 145, .ref 146, .ref 147, .int (gI r 27), .int (gI r 28), .int (gI r 29), .int (gI r 30), .int (gI r 31), .ref 148, .ref 149, .int (gI r 32), .ref 150, .ref 151, .ref 152, .int x, .ref 153, .ref 154, .ref 155, .ref 156, .ref 157, .int (gI r 34), .long (gL r 0)])) = HP c (sI r 33 x) := rfl
set_option maxHeartbeats 4000000 in
set_option maxRecDepth 100000 in
theorem st_115_76 (c r : St) (x : Int32) : (HP c r).set 115 (.inl (12, [.ref 116, .ref 117, .ref 118, .int (gI r 0), .int (gI r 1), .int (gI r 2), .int (gI r 3), .int (gI r 4), .int (gI r 5), .int (gI r 6), .ref 119, .ref 120, .int (gI r 7), .ref 121, .ref 122, .ref 123, .ref 124, .ref 125, .int (gI r 8), .ref 126, .int (gI r 9), .ref 127, .ref 128, .int (gI r 10), .ref 129, .ref 130, .int (gI r 11), .int (gI r 12), .ref 131, .int (gI r 13), .ref 132, .ref 133, .ref 134, .ref 135, .int (gI r 14), .int (gI r 15), .int (gI r 16), .int (gI r 17), .int (gI r 18), .int (gI r 19), .ref 136, .ref 137, .int (gI r 20), .ref 138, .ref 139, .ref 140, .int (gI r 21), .ref 141, .ref 142, .int (gI r 22), .int (gI r 23), .int (gI r 24), .int (gI r 25), .int (gI r 26), .ref 143, .ref 144, .ref 145, .ref 146, .ref 147, .int (gI r 27), .int (gI r 28), .int (gI r 29), .int (gI r 30), .int (gI r 31), .ref 148, .ref 149, .int (gI r 32), .ref 150, .ref 151, .ref 152, .int (gI r 33), .ref 153, .ref 154, .ref 155, .ref 156, .ref 157, .int x, .long (gL r 0)])) = HP c (sI r 34 x) := rfl
set_option maxHeartbeats 4000000 in
set_option maxRecDepth 100000 in
theorem st_115_77 (c r : St) (x : Int64) : (HP c r).set 115 (.inl (12, [.ref 116, .ref 117, .ref 118, .int (gI r 0), .int (gI r 1), .int (gI r 2), .int (gI r 3), .int (gI r 4), .int (gI r 5), .int (gI r 6), .ref 119, .ref 120, .int (gI r 7), .ref 121, .ref 122, .ref 123, .ref 124, .ref 125, .int (gI r 8), .ref 126, .int (gI r 9), .ref 127, .ref 128, .int (gI r 10), .ref 129, .ref 130, .int (gI r 11), .int (gI r 12), .ref 131, .int (gI r 13), .ref 132, .ref 133, .ref 134, .ref 135, .int (gI r 14), .int (gI r 15), .int (gI r 16), .int (gI r 17), .int (gI r 18), .int (gI r 19), .ref 136, .ref 137, .int (gI r 20), .ref 138, .ref 139, .ref 140, .int (gI r 21), .ref 141, .ref 142, .int (gI r 22), .int (gI r 23), .int (gI r 24), .int (gI r 25), .int (gI r 26), .ref 143, .ref 144, .ref 145, .ref 146, .ref 147, .int (gI r 27), .int (gI r 28), .int (gI r 29), .int (gI r 30), .int (gI r 31), .ref 148, .ref 149, .int (gI r 32), .ref 150, .ref 151, .ref 152, .int (gI r 33), .ref 153, .ref 154, .ref 155, .ref 156, .ref 157, .int (gI r 34), .long x])) = HP c (sL r 0 x) := rfl
set_option maxHeartbeats 4000000 in
set_option maxRecDepth 100000 in
theorem sa_116 (c r : St) (l : List Int32) : (HP c r).set 116 (.inr (0, .inl l)) = HP c (sA r 0 l) := rfl
set_option maxHeartbeats 4000000 in
set_option maxRecDepth 100000 in
theorem sa_117 (c r : St) (l : List Int32) : (HP c r).set 117 (.inr (0, .inl l)) = HP c (sA r 1 l) := rfl
set_option maxHeartbeats 4000000 in
set_option maxRecDepth 100000 in
theorem sa_118 (c r : St) (l : List Int32) : (HP c r).set 118 (.inr (2, .inl l)) = HP c (sA r 2 l) := rfl
set_option maxHeartbeats 4000000 in
set_option maxRecDepth 100000 in
theorem sa_119 (c r : St) (l : List Int32) : (HP c r).set 119 (.inr (0, .inl l)) = HP c (sA r 3 l) := rfl
set_option maxHeartbeats 4000000 in
set_option maxRecDepth 100000 in
theorem sa_120 (c r : St) (l : List Int32) : (HP c r).set 120 (.inr (0, .inl l)) = HP c (sA r 4 l) := rfl
set_option maxHeartbeats 4000000 in
set_option maxRecDepth 100000 in
theorem sa_121 (c r : St) (l : List Int32) : (HP c r).set 121 (.inr (0, .inl l)) = HP c (sA r 5 l) := rfl
set_option maxHeartbeats 4000000 in
set_option maxRecDepth 100000 in
theorem sa_122 (c r : St) (l : List Int32) : (HP c r).set 122 (.inr (0, .inl l)) = HP c (sA r 6 l) := rfl
set_option maxHeartbeats 4000000 in
set_option maxRecDepth 100000 in
theorem sa_123 (c r : St) (l : List Int32) : (HP c r).set 123 (.inr (0, .inl l)) = HP c (sA r 7 l) := rfl
set_option maxHeartbeats 4000000 in
set_option maxRecDepth 100000 in
theorem sa_124 (c r : St) (l : List Int32) : (HP c r).set 124 (.inr (0, .inl l)) = HP c (sA r 8 l) := rfl
set_option maxHeartbeats 4000000 in
set_option maxRecDepth 100000 in
theorem sa_125 (c r : St) (l : List Int32) : (HP c r).set 125 (.inr (0, .inl l)) = HP c (sA r 9 l) := rfl
set_option maxHeartbeats 4000000 in
set_option maxRecDepth 100000 in
theorem sa_126 (c r : St) (l : List Int32) : (HP c r).set 126 (.inr (1, .inl l)) = HP c (sA r 10 l) := rfl
set_option maxHeartbeats 4000000 in
set_option maxRecDepth 100000 in
theorem sa_127 (c r : St) (l : List Int32) : (HP c r).set 127 (.inr (1, .inl l)) = HP c (sA r 11 l) := rfl
set_option maxHeartbeats 4000000 in
set_option maxRecDepth 100000 in
theorem sa_128 (c r : St) (l : List Int32) : (HP c r).set 128 (.inr (0, .inl l)) = HP c (sA r 12 l) := rfl
set_option maxHeartbeats 4000000 in
set_option maxRecDepth 100000 in
theorem sa_129 (c r : St) (l : List Int32) : (HP c r).set 129 (.inr (0, .inl l)) = HP c (sA r 13 l) := rfl
set_option maxHeartbeats 4000000 in
set_option maxRecDepth 100000 in
theorem sa_130 (c r : St) (l : List Int32) : (HP c r).set 130 (.inr (0, .inl l)) = HP c (sA r 14 l) := rfl
set_option maxHeartbeats 4000000 in
set_option maxRecDepth 100000 in
theorem sa_131 (c r : St) (l : List Int32) : (HP c r).set 131 (.inr (0, .inl l)) = HP c (sA r 15 l) := rfl
set_option maxHeartbeats 4000000 in
set_option maxRecDepth 100000 in
theorem sa_132 (c r : St) (l : List Int32) : (HP c r).set 132 (.inr (0, .inl l)) = HP c (sA r 16 l) := rfl
set_option maxHeartbeats 4000000 in
set_option maxRecDepth 100000 in
theorem sa_133 (c r : St) (l : List Int32) : (HP c r).set 133 (.inr (0, .inl l)) = HP c (sA r 17 l) := rfl
set_option maxHeartbeats 4000000 in
set_option maxRecDepth 100000 in
theorem sa_134 (c r : St) (l : List Int32) : (HP c r).set 134 (.inr (0, .inl l)) = HP c (sA r 18 l) := rfl
set_option maxHeartbeats 4000000 in
set_option maxRecDepth 100000 in
theorem sa_135 (c r : St) (l : List Int32) : (HP c r).set 135 (.inr (0, .inl l)) = HP c (sA r 19 l) := rfl
set_option maxHeartbeats 4000000 in
set_option maxRecDepth 100000 in
theorem sa_136 (c r : St) (l : List Int32) : (HP c r).set 136 (.inr (0, .inl l)) = HP c (sA r 20 l) := rfl
set_option maxHeartbeats 4000000 in
set_option maxRecDepth 100000 in
theorem sa_137 (c r : St) (l : List Int32) : (HP c r).set 137 (.inr (0, .inl l)) = HP c (sA r 21 l) := rfl
set_option maxHeartbeats 4000000 in
set_option maxRecDepth 100000 in
theorem sa_138 (c r : St) (l : List Int32) : (HP c r).set 138 (.inr (0, .inl l)) = HP c (sA r 22 l) := rfl
set_option maxHeartbeats 4000000 in
set_option maxRecDepth 100000 in
theorem sa_139 (c r : St) (l : List Int32) : (HP c r).set 139 (.inr (0, .inl l)) = HP c (sA r 23 l) := rfl
set_option maxHeartbeats 4000000 in
set_option maxRecDepth 100000 in
theorem sa_140 (c r : St) (l : List Int32) : (HP c r).set 140 (.inr (0, .inl l)) = HP c (sA r 24 l) := rfl
set_option maxHeartbeats 4000000 in
set_option maxRecDepth 100000 in
theorem sa_141 (c r : St) (l : List Int32) : (HP c r).set 141 (.inr (0, .inl l)) = HP c (sA r 25 l) := rfl
set_option maxHeartbeats 4000000 in
set_option maxRecDepth 100000 in
theorem sa_142 (c r : St) (l : List Int32) : (HP c r).set 142 (.inr (0, .inl l)) = HP c (sA r 26 l) := rfl
set_option maxHeartbeats 4000000 in
set_option maxRecDepth 100000 in
theorem sa_143 (c r : St) (l : List Int32) : (HP c r).set 143 (.inr (0, .inl l)) = HP c (sA r 27 l) := rfl
set_option maxHeartbeats 4000000 in
set_option maxRecDepth 100000 in
theorem sa_144 (c r : St) (l : List Int32) : (HP c r).set 144 (.inr (0, .inl l)) = HP c (sA r 28 l) := rfl
set_option maxHeartbeats 4000000 in
set_option maxRecDepth 100000 in
theorem sa_145 (c r : St) (l : List Int32) : (HP c r).set 145 (.inr (0, .inl l)) = HP c (sA r 29 l) := rfl
set_option maxHeartbeats 4000000 in
set_option maxRecDepth 100000 in
theorem sa_146 (c r : St) (l : List Int32) : (HP c r).set 146 (.inr (0, .inl l)) = HP c (sA r 30 l) := rfl
set_option maxHeartbeats 4000000 in
set_option maxRecDepth 100000 in
theorem sa_147 (c r : St) (l : List Int32) : (HP c r).set 147 (.inr (0, .inl l)) = HP c (sA r 31 l) := rfl
set_option maxHeartbeats 4000000 in
set_option maxRecDepth 100000 in
theorem sa_148 (c r : St) (l : List Int64) : (HP c r).set 148 (.inr (3, .inr (.inl l))) = HP c (sB r 0 l) := rfl
set_option maxHeartbeats 4000000 in
set_option maxRecDepth 100000 in
theorem sa_149 (c r : St) (l : List Int64) : (HP c r).set 149 (.inr (3, .inr (.inl l))) = HP c (sB r 1 l) := rfl
set_option maxHeartbeats 4000000 in
set_option maxRecDepth 100000 in
theorem sa_150 (c r : St) (l : List Int32) : (HP c r).set 150 (.inr (0, .inl l)) = HP c (sA r 32 l) := rfl
set_option maxHeartbeats 4000000 in
set_option maxRecDepth 100000 in
theorem sa_151 (c r : St) (l : List Int32) : (HP c r).set 151 (.inr (0, .inl l)) = HP c (sA r 33 l) := rfl
set_option maxHeartbeats 4000000 in
set_option maxRecDepth 100000 in
theorem sa_152 (c r : St) (l : List Int32) : (HP c r).set 152 (.inr (0, .inl l)) = HP c (sA r 34 l) := rfl
set_option maxHeartbeats 4000000 in
set_option maxRecDepth 100000 in
theorem sa_153 (c r : St) (l : List Int32) : (HP c r).set 153 (.inr (0, .inl l)) = HP c (sA r 35 l) := rfl
set_option maxHeartbeats 4000000 in
set_option maxRecDepth 100000 in
theorem sa_154 (c r : St) (l : List Int32) : (HP c r).set 154 (.inr (0, .inl l)) = HP c (sA r 36 l) := rfl
set_option maxHeartbeats 4000000 in
set_option maxRecDepth 100000 in
theorem sa_155 (c r : St) (l : List Int32) : (HP c r).set 155 (.inr (0, .inl l)) = HP c (sA r 37 l) := rfl
set_option maxHeartbeats 4000000 in
set_option maxRecDepth 100000 in
theorem sa_156 (c r : St) (l : List Int32) : (HP c r).set 156 (.inr (0, .inl l)) = HP c (sA r 38 l) := rfl
set_option maxHeartbeats 4000000 in
set_option maxRecDepth 100000 in
theorem sa_157 (c r : St) (l : List Int32) : (HP c r).set 157 (.inr (0, .inl l)) = HP c (sA r 39 l) := rfl
theorem rows_19 {i : Nat} (h : i < 20) : AR (20 + i) (14 + i) := (mAllS (mAllS (mAllS (mAllS (mAllS (mAllS (mAllS (mAllS (mAllS (mAllS (mAllS (mAllS (mAllS (mAllS (mAllS (mAllS (mAllS (mAllS (mAllS (mAllS (mAll0) ar_20) ar_21) ar_22) ar_23) ar_24) ar_25) ar_26) ar_27) ar_28) ar_29) ar_30) ar_31) ar_32) ar_33) ar_34) ar_35) ar_36) ar_37) ar_38) ar_39 : ∀ y, 0 ≤ y → y < 20 → AR (20 + y) (14 + y)) i (Nat.zero_le _) h
theorem rowl_19 (j : Nat) (h : j < 20) : ([some 20, some 21, some 22, some 23, some 24, some 25, some 26, some 27, some 28, some 29, some 30, some 31, some 32, some 33, some 34, some 35, some 36, some 37, some 38, some 39] : List (Option Nat))[j]? = some (some (20 + j)) := by
  have key : ∀ q : Fin 20, ([some 20, some 21, some 22, some 23, some 24, some 25, some 26, some 27, some 28, some 29, some 30, some 31, some 32, some 33, some 34, some 35, some 36, some 37, some 38, some 39] : List (Option Nat))[q.val]? = some (some (20 + q.val)) := by decide
  exact key ⟨j, h⟩
theorem rows_42 {i : Nat} (h : i < 12) : AR (43 + i) (35 + i) := (mAllS (mAllS (mAllS (mAllS (mAllS (mAllS (mAllS (mAllS (mAllS (mAllS (mAllS (mAllS (mAll0) ar_43) ar_44) ar_45) ar_46) ar_47) ar_48) ar_49) ar_50) ar_51) ar_52) ar_53) ar_54 : ∀ y, 0 ≤ y → y < 12 → AR (43 + y) (35 + y)) i (Nat.zero_le _) h
theorem rowl_42 (j : Nat) (h : j < 12) : ([some 43, some 44, some 45, some 46, some 47, some 48, some 49, some 50, some 51, some 52, some 53, some 54] : List (Option Nat))[j]? = some (some (43 + j)) := by
  have key : ∀ q : Fin 12, ([some 43, some 44, some 45, some 46, some 47, some 48, some 49, some 50, some 51, some 52, some 53, some 54] : List (Option Nat))[q.val]? = some (some (43 + q.val)) := by decide
  exact key ⟨j, h⟩
theorem rows_69 {i : Nat} (h : i < 6) : AR (70 + i) (56 + i) := (mAllS (mAllS (mAllS (mAllS (mAllS (mAllS (mAll0) ar_70) ar_71) ar_72) ar_73) ar_74) ar_75 : ∀ y, 0 ≤ y → y < 6 → AR (70 + y) (56 + y)) i (Nat.zero_le _) h
theorem rowl_69 (j : Nat) (h : j < 6) : ([some 70, some 71, some 72, some 73, some 74, some 75] : List (Option Nat))[j]? = some (some (70 + j)) := by
  have key : ∀ q : Fin 6, ([some 70, some 71, some 72, some 73, some 74, some 75] : List (Option Nat))[q.val]? = some (some (70 + q.val)) := by decide
  exact key ⟨j, h⟩
theorem rows_89 {i : Nat} (h : i < 8) : AR (90 + i) (73 + i) := (mAllS (mAllS (mAllS (mAllS (mAllS (mAllS (mAllS (mAllS (mAll0) ar_90) ar_91) ar_92) ar_93) ar_94) ar_95) ar_96) ar_97 : ∀ y, 0 ≤ y → y < 8 → AR (90 + y) (73 + y)) i (Nat.zero_le _) h
theorem rowl_89 (j : Nat) (h : j < 8) : ([some 90, some 91, some 92, some 93, some 94, some 95, some 96, some 97] : List (Option Nat))[j]? = some (some (90 + j)) := by
  have key : ∀ q : Fin 8, ([some 90, some 91, some 92, some 93, some 94, some 95, some 96, some 97] : List (Option Nat))[q.val]? = some (some (90 + q.val)) := by decide
  exact key ⟨j, h⟩
theorem rows_105 {i : Nat} (h : i < 8) : AR (106 + i) (86 + i) := (mAllS (mAllS (mAllS (mAllS (mAllS (mAllS (mAllS (mAllS (mAll0) ar_106) ar_107) ar_108) ar_109) ar_110) ar_111) ar_112) ar_113 : ∀ y, 0 ≤ y → y < 8 → AR (106 + y) (86 + y)) i (Nat.zero_le _) h
theorem rowl_105 (j : Nat) (h : j < 8) : ([some 106, some 107, some 108, some 109, some 110, some 111, some 112, some 113] : List (Option Nat))[j]? = some (some (106 + j)) := by
  have key : ∀ q : Fin 8, ([some 106, some 107, some 108, some 109, some 110, some 111, some 112, some 113] : List (Option Nat))[q.val]? = some (some (106 + q.val)) := by decide
  exact key ⟨j, h⟩
end
section
/-! methods as partial functions of Lean, and that the small machine does them: by program (gen18) -/
/-! ColdHolds.within(III)Z, from ('i', 'i', 'i') -/
def C_within_p14 (N : Nat) : Option (Int32) :=
  some 0
def C_within (N : Nat) (x0 : Int32) (x1 : Int32) (x2 : Int32) : Option (Int32) :=
  (if x0 < x1 then C_within_p14 N else (if x2 < x0 then C_within_p14 N else some 1))
set_option maxHeartbeats 8000000 in
set_option maxRecDepth 100000 in
theorem t_C_within_p14 (N d : Nat) (xs : List Int32) (c : St) (r : St) : Ok (mBig (mRoL xs) (d)) (mRoL xs) 2 mK102 (fun p : Int32 => (some (.int p), HP c r)) (C_within_p14 N) 14 [none, none, none] [] (HP c r) := by
  unfold C_within_p14
  refine Ok_blk 1 (pc2 := 15) (lo2 := [none, none, none]) (st2 := [.int 0]) rfl ?_
  exact Ok_rez (Or.inl rfl) rfl rfl
set_option maxHeartbeats 8000000 in
set_option maxRecDepth 100000 in
theorem t_C_within (N d : Nat) (xs : List Int32) (c : St) (r : St) (x0 : Int32) (x1 : Int32) (x2 : Int32) : Ok (mBig (mRoL xs) (d)) (mRoL xs) 2 mK102 (fun p : Int32 => (some (.int p), HP c r)) (C_within N x0 x1 x2) 0 [some (.int x0), some (.int x1), some (.int x2)] [] (HP c r) := by
  unfold C_within
  refine Ok_blk 3 (pc2 := (if x0 < x1 then 14 else 5)) (lo2 := [some (.int x0), some (.int x1), some (.int x2)]) (st2 := []) rfl ?_
  refine Ok_if (fun h1 => ?_) (fun h1 => ?_)
  · refine Ok_drop (lo0 := [none, none, none]) ⟨Or.inl rfl, Or.inl rfl, Or.inl rfl, trivial⟩ ?_
    exact t_C_within_p14 N d xs c r
  · refine Ok_blk 3 (pc2 := (if x2 < x0 then 14 else 10)) (lo2 := [some (.int x0), some (.int x1), some (.int x2)]) (st2 := []) rfl ?_
    refine Ok_if (fun h2 => ?_) (fun h2 => ?_)
    · refine Ok_drop (lo0 := [none, none, none]) ⟨Or.inl rfl, Or.inl rfl, Or.inl rfl, trivial⟩ ?_
      exact t_C_within_p14 N d xs c r
    · refine Ok_blk 2 (pc2 := 15) (lo2 := [some (.int x0), some (.int x1), some (.int x2)]) (st2 := [.int 1]) rfl ?_
      exact Ok_rez (Or.inr rfl) rfl rfl
set_option maxHeartbeats 8000000 in
set_option maxRecDepth 100000 in
theorem tm_C_within (N d : Nat) (xs : List Int32) (c r : St) (a0 : Int32) (a1 : Int32) (a2 : Int32) (p : Int32) (hp : C_within N a0 a1 a2 = some p) : mBig (mRoL xs) (d + 1) 102 [.int a0, .int a1, .int a2] (HP c r) (some (.int p)) (HP c r) 0 0 := mBig_of (by decide) rfl rfl rfl rfl (t_C_within N d xs c r a0 a1 a2 p hp)
/-! ColdHolds$Hold.addLeg(II)I, from (('r', 1), 'i', 'i') -/
def Hold_addLeg (N : Nat) (c : St) (x1 : Int32) (x2 : Int32) : Option (Int32 × St) :=
  (if (gI c 0) < 6 then (sto (gA c 3) (gI c 0) x1).bind fun w2 => (sto (gA (sA c 3 w2) 4) (gI (sA c 3 w2) 0) x2).bind fun w3 => some (gI (sI (sA (sA c 3 w2) 4 w3) 0 ((gI (sA (sA c 3 w2) 4 w3) 0) + 1)) 0, sI (sA (sA c 3 w2) 4 w3) 0 ((gI (sA (sA c 3 w2) 4 w3) 0) + 1)) else some ((-104), c))
set_option maxHeartbeats 8000000 in
set_option maxRecDepth 100000 in
theorem t_Hold_addLeg (N d : Nat) (xs : List Int32) (r : St) (c : St) (x1 : Int32) (x2 : Int32) : Ok (mBig (mRoL xs) (d)) (mRoL xs) 1 mK29 (fun p : Int32 × St => (some (.int p.1), HP p.2 r)) (Hold_addLeg N c x1 x2) 0 [some (.ref 1), some (.int x1), some (.int x2)] [] (HP c r) := by
  unfold Hold_addLeg
  refine Ok_blk 4 (pc2 := (if (gI c 0) < 6 then 12 else 9)) (lo2 := [some (.ref 1), some (.int x1), some (.int x2)]) (st2 := []) rfl ?_
  refine Ok_if (fun h1 => ?_) (fun h1 => ?_)
  · refine Ok_blk 5 (pc2 := 21) (lo2 := [some (.ref 1), some (.int x1), some (.int x2)]) (st2 := [.int x1, .int (gI c 0), .ref 5]) rfl ?_
    refine Ok_st (l := (gA c 3)) (hn := fun l' => HP (sA c 3 l') r) rfl rfl (fun l' => sa_5 _ _ l') (fun w2 hw2 => ?_)
    refine Ok_blk 5 (pc2 := 31) (lo2 := [some (.ref 1), some (.int x1), some (.int x2)]) (st2 := [.int x2, .int (gI (sA c 3 w2) 0), .ref 6]) rfl ?_
    refine Ok_st (l := (gA (sA c 3 w2) 4)) (hn := fun l' => HP (sA (sA c 3 w2) 4 l') r) rfl rfl (fun l' => sa_6 _ _ l') (fun w3 hw3 => ?_)
    refine Ok_heap 6 (pc2 := 42) (lo2 := [some (.ref 1), some (.int x1), some (.int x2)]) (st2 := []) (h2 := HP (sI (sA (sA c 3 w2) 4 w3) 0 ((gI (sA (sA c 3 w2) 4 w3) 0) + 1)) r) rfl (st_1_3 _ _ _) ?_
    refine Ok_blk 2 (pc2 := 46) (lo2 := [some (.ref 1), some (.int x1), some (.int x2)]) (st2 := [.int (gI (sI (sA (sA c 3 w2) 4 w3) 0 ((gI (sA (sA c 3 w2) 4 w3) 0) + 1)) 0)]) rfl ?_
    exact Ok_ret rfl rfl rfl
  · refine Ok_blk 1 (pc2 := 11) (lo2 := [some (.ref 1), some (.int x1), some (.int x2)]) (st2 := [.int (-104)]) rfl ?_
    exact Ok_ret rfl rfl rfl
set_option maxHeartbeats 8000000 in
set_option maxRecDepth 100000 in
theorem tm_Hold_addLeg (N d : Nat) (xs : List Int32) (c r : St) (a1 : Int32) (a2 : Int32) (p : Int32 × St) (hp : Hold_addLeg N c a1 a2 = some p) : mBig (mRoL xs) (d + 1) 29 [.ref 1, .int a1, .int a2] (HP c r) (some (.int p.1)) (HP p.2 r) 0 0 := mBig_of (by decide) rfl rfl rfl rfl (t_Hold_addLeg N d xs r c a1 a2 p hp)
/-! ColdHolds.leg(II)I, from (('r', 0), 'i', 'i') -/
def C_leg_p23 (N : Nat) (c : St) : Option (Int32 × St) :=
  some ((-102), c)
def C_leg (N : Nat) (c : St) (x1 : Int32) (x2 : Int32) : Option (Int32 × St) :=
  (C_within N x1 1 200).bind fun p1 => (if p1 = 0 then C_leg_p23 N c else (C_within N x2 (-50) 400).bind fun p3 => (if ¬ p3 = 0 then (if (gI c 1) ≤ 0 then (Hold_addLeg N c x1 x2).bind fun p6 => some (p6.1, p6.2) else some ((-103), c)) else C_leg_p23 N c))
set_option maxHeartbeats 8000000 in
set_option maxRecDepth 100000 in
theorem t_C_leg_p23 (N d : Nat) (xs : List Int32) (r : St) (c : St) : Ok (mBig (mRoL xs) (d + 1)) (mRoL xs) 1 mK108 (fun p : Int32 × St => (some (.int p.1), HP p.2 r)) (C_leg_p23 N c) 23 [none, none, none] [] (HP c r) := by
  unfold C_leg_p23
  refine Ok_blk 1 (pc2 := 25) (lo2 := [none, none, none]) (st2 := [.int (-102)]) rfl ?_
  exact Ok_ret rfl rfl rfl
set_option maxHeartbeats 8000000 in
set_option maxRecDepth 100000 in
theorem t_C_leg (N d : Nat) (xs : List Int32) (r : St) (c : St) (x1 : Int32) (x2 : Int32) : Ok (mBig (mRoL xs) (d + 1)) (mRoL xs) 1 mK108 (fun p : Int32 × St => (some (.int p.1), HP p.2 r)) (C_leg N c x1 x2) 0 [some (.ref 0), some (.int x1), some (.int x2)] [] (HP c r) := by
  unfold C_leg
  refine Ok_blk 3 (pc2 := 5) (lo2 := [some (.ref 0), some (.int x1), some (.int x2)]) (st2 := [.int 200, .int 1, .int x1]) rfl ?_
  refine Ok_call (y := 102) (as := [.int x1, .int 1, .int 200]) (rest := []) (w := fun p1 => some (.int p1)) (h1 := fun p1 => HP c r) rfl rfl (fun x hx => tm_C_within N d xs c r x1 1 200 x hx) (fun p1 hp1 => ?_)
  refine Ok_blk 1 (pc2 := (if p1 = 0 then 23 else 11)) (lo2 := [some (.ref 0), some (.int x1), some (.int x2)]) (st2 := []) rfl ?_
  refine Ok_if (fun h2 => ?_) (fun h2 => ?_)
  · refine Ok_drop (lo0 := [none, none, none]) ⟨Or.inl rfl, Or.inl rfl, Or.inl rfl, trivial⟩ ?_
    exact t_C_leg_p23 N d xs r c
  · refine Ok_blk 3 (pc2 := 17) (lo2 := [some (.ref 0), some (.int x1), some (.int x2)]) (st2 := [.int 400, .int (-50), .int x2]) rfl ?_
    refine Ok_call (y := 102) (as := [.int x2, .int (-50), .int 400]) (rest := []) (w := fun p3 => some (.int p3)) (h1 := fun p3 => HP c r) rfl rfl (fun x hx => tm_C_within N d xs c r x2 (-50) 400 x hx) (fun p3 hp3 => ?_)
    refine Ok_blk 1 (pc2 := (if ¬ p3 = 0 then 26 else 23)) (lo2 := [some (.ref 0), some (.int x1), some (.int x2)]) (st2 := []) rfl ?_
    refine Ok_if (fun h4 => ?_) (fun h4 => ?_)
    · refine Ok_blk 4 (pc2 := (if (gI c 1) ≤ 0 then 39 else 36)) (lo2 := [some (.ref 0), some (.int x1), some (.int x2)]) (st2 := []) rfl ?_
      refine Ok_if (fun h5 => ?_) (fun h5 => ?_)
      · refine Ok_blk 4 (pc2 := 45) (lo2 := [some (.ref 0), some (.int x1), some (.int x2)]) (st2 := [.int x2, .int x1, .ref 1]) rfl ?_
        refine Ok_call (y := 29) (as := [.ref 1, .int x1, .int x2]) (rest := []) (w := fun p6 => some (.int p6.1)) (h1 := fun p6 => HP p6.2 r) rfl rfl (fun x hx => tm_Hold_addLeg N d xs c r x1 x2 x hx) (fun p6 hp6 => ?_)
        exact Ok_ret rfl rfl rfl
      · refine Ok_blk 1 (pc2 := 38) (lo2 := [some (.ref 0), some (.int x1), some (.int x2)]) (st2 := [.int (-103)]) rfl ?_
        exact Ok_ret rfl rfl rfl
    · refine Ok_drop (lo0 := [none, none, none]) ⟨Or.inl rfl, Or.inl rfl, Or.inl rfl, trivial⟩ ?_
      exact t_C_leg_p23 N d xs r c
set_option maxHeartbeats 8000000 in
set_option maxRecDepth 100000 in
theorem tm_C_leg (N d : Nat) (xs : List Int32) (c r : St) (a1 : Int32) (a2 : Int32) (p : Int32 × St) (hp : C_leg N c a1 a2 = some p) : mBig (mRoL xs) (d + 2) 108 [.ref 0, .int a1, .int a2] (HP c r) (some (.int p.1)) (HP p.2 r) 0 0 := mBig_of (by decide) rfl rfl rfl rfl (t_C_leg N d xs r c a1 a2 p hp)
/-! ColdHoldsModel.in(III)Z, from ('i', 'i', 'i') -/
def R_in_p14 (N : Nat) : Option (Int32) :=
  some 0
def R_in (N : Nat) (x0 : Int32) (x1 : Int32) (x2 : Int32) : Option (Int32) :=
  (if x0 < x1 then R_in_p14 N else (if x2 < x0 then R_in_p14 N else some 1))
set_option maxHeartbeats 8000000 in
set_option maxRecDepth 100000 in
theorem t_R_in_p14 (N d : Nat) (xs : List Int32) (c : St) (r : St) : Ok (mBig (mRoL xs) (d)) (mRoL xs) 2 mK164 (fun p : Int32 => (some (.int p), HP c r)) (R_in_p14 N) 14 [none, none, none] [] (HP c r) := by
  unfold R_in_p14
  refine Ok_blk 1 (pc2 := 15) (lo2 := [none, none, none]) (st2 := [.int 0]) rfl ?_
  exact Ok_rez (Or.inl rfl) rfl rfl
set_option maxHeartbeats 8000000 in
set_option maxRecDepth 100000 in
theorem t_R_in (N d : Nat) (xs : List Int32) (c : St) (r : St) (x0 : Int32) (x1 : Int32) (x2 : Int32) : Ok (mBig (mRoL xs) (d)) (mRoL xs) 2 mK164 (fun p : Int32 => (some (.int p), HP c r)) (R_in N x0 x1 x2) 0 [some (.int x0), some (.int x1), some (.int x2)] [] (HP c r) := by
  unfold R_in
  refine Ok_blk 3 (pc2 := (if x0 < x1 then 14 else 5)) (lo2 := [some (.int x0), some (.int x1), some (.int x2)]) (st2 := []) rfl ?_
  refine Ok_if (fun h1 => ?_) (fun h1 => ?_)
  · refine Ok_drop (lo0 := [none, none, none]) ⟨Or.inl rfl, Or.inl rfl, Or.inl rfl, trivial⟩ ?_
    exact t_R_in_p14 N d xs c r
  · refine Ok_blk 3 (pc2 := (if x2 < x0 then 14 else 10)) (lo2 := [some (.int x0), some (.int x1), some (.int x2)]) (st2 := []) rfl ?_
    refine Ok_if (fun h2 => ?_) (fun h2 => ?_)
    · refine Ok_drop (lo0 := [none, none, none]) ⟨Or.inl rfl, Or.inl rfl, Or.inl rfl, trivial⟩ ?_
      exact t_R_in_p14 N d xs c r
    · refine Ok_blk 2 (pc2 := 15) (lo2 := [some (.int x0), some (.int x1), some (.int x2)]) (st2 := [.int 1]) rfl ?_
      exact Ok_rez (Or.inr rfl) rfl rfl
set_option maxHeartbeats 8000000 in
set_option maxRecDepth 100000 in
theorem tm_R_in (N d : Nat) (xs : List Int32) (c r : St) (a0 : Int32) (a1 : Int32) (a2 : Int32) (p : Int32) (hp : R_in N a0 a1 a2 = some p) : mBig (mRoL xs) (d + 1) 164 [.int a0, .int a1, .int a2] (HP c r) (some (.int p)) (HP c r) 0 0 := mBig_of (by decide) rfl rfl rfl rfl (t_R_in N d xs c r a0 a1 a2 p hp)
/-! ColdHoldsModel.leg(II)I, from (('r', 115), 'i', 'i') -/
def R_leg_p23 (N : Nat) (r : St) : Option (Int32 × St) :=
  some ((-102), r)
def R_leg (N : Nat) (r : St) (x1 : Int32) (x2 : Int32) : Option (Int32 × St) :=
  (R_in N x1 1 200).bind fun p1 => (if p1 = 0 then R_leg_p23 N r else (R_in N x2 (-50) 400).bind fun p3 => (if ¬ p3 = 0 then (if (gI r 4) ≤ 0 then (if ¬ (gI r 6) = 6 then (sto (gA r 3) (gI r 6) x1).bind fun w7 => (sto (gA (sA r 3 w7) 4) (gI (sA r 3 w7) 6) x2).bind fun w8 => some (gI (sI (sA (sA r 3 w7) 4 w8) 6 ((gI (sA (sA r 3 w7) 4 w8) 6) + 1)) 6, sI (sA (sA r 3 w7) 4 w8) 6 ((gI (sA (sA r 3 w7) 4 w8) 6) + 1)) else some ((-104), r)) else some ((-103), r)) else R_leg_p23 N r))
set_option maxHeartbeats 8000000 in
set_option maxRecDepth 100000 in
theorem t_R_leg_p23 (N d : Nat) (xs : List Int32) (c : St) (r : St) : Ok (mBig (mRoL xs) (d + 1)) (mRoL xs) 1 mK167 (fun p : Int32 × St => (some (.int p.1), HP c p.2)) (R_leg_p23 N r) 23 [none, none, none] [] (HP c r) := by
  unfold R_leg_p23
  refine Ok_blk 1 (pc2 := 25) (lo2 := [none, none, none]) (st2 := [.int (-102)]) rfl ?_
  exact Ok_ret rfl rfl rfl
set_option maxHeartbeats 8000000 in
set_option maxRecDepth 100000 in
theorem t_R_leg (N d : Nat) (xs : List Int32) (c : St) (r : St) (x1 : Int32) (x2 : Int32) : Ok (mBig (mRoL xs) (d + 1)) (mRoL xs) 1 mK167 (fun p : Int32 × St => (some (.int p.1), HP c p.2)) (R_leg N r x1 x2) 0 [some (.ref 115), some (.int x1), some (.int x2)] [] (HP c r) := by
  unfold R_leg
  refine Ok_blk 3 (pc2 := 5) (lo2 := [some (.ref 115), some (.int x1), some (.int x2)]) (st2 := [.int 200, .int 1, .int x1]) rfl ?_
  refine Ok_call (y := 164) (as := [.int x1, .int 1, .int 200]) (rest := []) (w := fun p1 => some (.int p1)) (h1 := fun p1 => HP c r) rfl rfl (fun x hx => tm_R_in N d xs c r x1 1 200 x hx) (fun p1 hp1 => ?_)
  refine Ok_blk 1 (pc2 := (if p1 = 0 then 23 else 11)) (lo2 := [some (.ref 115), some (.int x1), some (.int x2)]) (st2 := []) rfl ?_
  refine Ok_if (fun h2 => ?_) (fun h2 => ?_)
  · refine Ok_drop (lo0 := [none, none, none]) ⟨Or.inl rfl, Or.inl rfl, Or.inl rfl, trivial⟩ ?_
    exact t_R_leg_p23 N d xs c r
  · refine Ok_blk 3 (pc2 := 17) (lo2 := [some (.ref 115), some (.int x1), some (.int x2)]) (st2 := [.int 400, .int (-50), .int x2]) rfl ?_
    refine Ok_call (y := 164) (as := [.int x2, .int (-50), .int 400]) (rest := []) (w := fun p3 => some (.int p3)) (h1 := fun p3 => HP c r) rfl rfl (fun x hx => tm_R_in N d xs c r x2 (-50) 400 x hx) (fun p3 hp3 => ?_)
    refine Ok_blk 1 (pc2 := (if ¬ p3 = 0 then 26 else 23)) (lo2 := [some (.ref 115), some (.int x1), some (.int x2)]) (st2 := []) rfl ?_
    refine Ok_if (fun h4 => ?_) (fun h4 => ?_)
    · refine Ok_blk 3 (pc2 := (if (gI r 4) ≤ 0 then 36 else 33)) (lo2 := [some (.ref 115), some (.int x1), some (.int x2)]) (st2 := []) rfl ?_
      refine Ok_if (fun h5 => ?_) (fun h5 => ?_)
      · refine Ok_blk 4 (pc2 := (if ¬ (gI r 6) = 6 then 48 else 45)) (lo2 := [some (.ref 115), some (.int x1), some (.int x2)]) (st2 := []) rfl ?_
        refine Ok_if (fun h6 => ?_) (fun h6 => ?_)
        · refine Ok_blk 5 (pc2 := 57) (lo2 := [some (.ref 115), some (.int x1), some (.int x2)]) (st2 := [.int x1, .int (gI r 6), .ref 119]) rfl ?_
          refine Ok_st (l := (gA r 3)) (hn := fun l' => HP c (sA r 3 l')) rfl rfl (fun l' => sa_119 _ _ l') (fun w7 hw7 => ?_)
          refine Ok_blk 5 (pc2 := 67) (lo2 := [some (.ref 115), some (.int x1), some (.int x2)]) (st2 := [.int x2, .int (gI (sA r 3 w7) 6), .ref 120]) rfl ?_
          refine Ok_st (l := (gA (sA r 3 w7) 4)) (hn := fun l' => HP c (sA (sA r 3 w7) 4 l')) rfl rfl (fun l' => sa_120 _ _ l') (fun w8 hw8 => ?_)
          refine Ok_heap 6 (pc2 := 78) (lo2 := [some (.ref 115), some (.int x1), some (.int x2)]) (st2 := []) (h2 := HP c (sI (sA (sA r 3 w7) 4 w8) 6 ((gI (sA (sA r 3 w7) 4 w8) 6) + 1))) rfl (st_115_9 _ _ _) ?_
          refine Ok_blk 2 (pc2 := 82) (lo2 := [some (.ref 115), some (.int x1), some (.int x2)]) (st2 := [.int (gI (sI (sA (sA r 3 w7) 4 w8) 6 ((gI (sA (sA r 3 w7) 4 w8) 6) + 1)) 6)]) rfl ?_
          exact Ok_ret rfl rfl rfl
        · refine Ok_blk 1 (pc2 := 47) (lo2 := [some (.ref 115), some (.int x1), some (.int x2)]) (st2 := [.int (-104)]) rfl ?_
          exact Ok_ret rfl rfl rfl
      · refine Ok_blk 1 (pc2 := 35) (lo2 := [some (.ref 115), some (.int x1), some (.int x2)]) (st2 := [.int (-103)]) rfl ?_
        exact Ok_ret rfl rfl rfl
    · refine Ok_drop (lo0 := [none, none, none]) ⟨Or.inl rfl, Or.inl rfl, Or.inl rfl, trivial⟩ ?_
      exact t_R_leg_p23 N d xs c r
set_option maxHeartbeats 8000000 in
set_option maxRecDepth 100000 in
theorem tm_R_leg (N d : Nat) (xs : List Int32) (c r : St) (a1 : Int32) (a2 : Int32) (p : Int32 × St) (hp : R_leg N r a1 a2 = some p) : mBig (mRoL xs) (d + 2) 167 [.ref 115, .int a1, .int a2] (HP c r) (some (.int p.1)) (HP c p.2) 0 0 := mBig_of (by decide) rfl rfl rfl rfl (t_R_leg N d xs c r a1 a2 p hp)
/-! ColdHolds.isCell(I)Z, from ('i',) -/
def C_isCell (N : Nat) (x0 : Int32) : Option (Int32) :=
  (C_within N x0 0 11).bind fun p1 => some p1
set_option maxHeartbeats 8000000 in
set_option maxRecDepth 100000 in
theorem t_C_isCell (N d : Nat) (xs : List Int32) (c : St) (r : St) (x0 : Int32) : Ok (mBig (mRoL xs) (d + 1)) (mRoL xs) 2 mK103 (fun p : Int32 => (some (.int p), HP c r)) (C_isCell N x0) 0 [some (.int x0)] [] (HP c r) := by
  unfold C_isCell
  refine Ok_blk 3 (pc2 := 4) (lo2 := [some (.int x0)]) (st2 := [.int 11, .int 0, .int x0]) rfl ?_
  refine Ok_call (y := 102) (as := [.int x0, .int 0, .int 11]) (rest := []) (w := fun p1 => some (.int p1)) (h1 := fun p1 => HP c r) rfl rfl (fun x hx => tm_C_within N d xs c r x0 0 11 x hx) (fun p1 hp1 => ?_)
  exact Ok_rez (mBig_z (tm_C_within N d xs c r x0 0 11 p1 hp1) rfl) rfl rfl
set_option maxHeartbeats 8000000 in
set_option maxRecDepth 100000 in
theorem tm_C_isCell (N d : Nat) (xs : List Int32) (c r : St) (a0 : Int32) (p : Int32) (hp : C_isCell N a0 = some p) : mBig (mRoL xs) (d + 2) 103 [.int a0] (HP c r) (some (.int p)) (HP c r) 0 0 := mBig_of (by decide) rfl rfl rfl rfl (t_C_isCell N d xs c r a0 p hp)
/-! ColdHolds.isWarmth(I)Z, from ('i',) -/
def C_isWarmth (N : Nat) (x0 : Int32) : Option (Int32) :=
  (C_within N x0 (-300) 600).bind fun p1 => some p1
set_option maxHeartbeats 8000000 in
set_option maxRecDepth 100000 in
theorem t_C_isWarmth (N d : Nat) (xs : List Int32) (c : St) (r : St) (x0 : Int32) : Ok (mBig (mRoL xs) (d + 1)) (mRoL xs) 2 mK104 (fun p : Int32 => (some (.int p), HP c r)) (C_isWarmth N x0) 0 [some (.int x0)] [] (HP c r) := by
  unfold C_isWarmth
  refine Ok_blk 3 (pc2 := 7) (lo2 := [some (.int x0)]) (st2 := [.int 600, .int (-300), .int x0]) rfl ?_
  refine Ok_call (y := 102) (as := [.int x0, .int (-300), .int 600]) (rest := []) (w := fun p1 => some (.int p1)) (h1 := fun p1 => HP c r) rfl rfl (fun x hx => tm_C_within N d xs c r x0 (-300) 600 x hx) (fun p1 hp1 => ?_)
  exact Ok_rez (mBig_z (tm_C_within N d xs c r x0 (-300) 600 p1 hp1) rfl) rfl rfl
set_option maxHeartbeats 8000000 in
set_option maxRecDepth 100000 in
theorem tm_C_isWarmth (N d : Nat) (xs : List Int32) (c r : St) (a0 : Int32) (p : Int32) (hp : C_isWarmth N a0 = some p) : mBig (mRoL xs) (d + 2) 104 [.int a0] (HP c r) (some (.int p)) (HP c r) 0 0 := mBig_of (by decide) rfl rfl rfl rfl (t_C_isWarmth N d xs c r a0 p hp)
/-! ColdHolds.change([III)I, from (('r', 8), 'i', 'i') -/
def C_change (N : Nat) (c : St) (x1 : Int32) (x2 : Int32) : Option (Int32 × St) :=
  (ld (gA c 5) x1).bind fun y1 => (sto (gA c 5) x1 x2).bind fun w2 => some (y1, sA c 5 w2)
set_option maxHeartbeats 8000000 in
set_option maxRecDepth 100000 in
theorem t_C_change (N d : Nat) (xs : List Int32) (r : St) (c : St) (x1 : Int32) (x2 : Int32) : Ok (mBig (mRoL xs) (d)) (mRoL xs) 1 mK105 (fun p : Int32 × St => (some (.int p.1), HP p.2 r)) (C_change N c x1 x2) 0 [some (.ref 8), some (.int x1), some (.int x2), none] [] (HP c r) := by
  unfold C_change
  refine Ok_blk 2 (pc2 := 2) (lo2 := [some (.ref 8), some (.int x1), some (.int x2), none]) (st2 := [.int x1, .ref 8]) rfl ?_
  refine Ok_ld (l := (gA c 5)) rfl rfl (fun y1 hy1 => ?_)
  refine Ok_blk 4 (pc2 := 7) (lo2 := [some (.ref 8), some (.int x1), some (.int x2), some (.int y1)]) (st2 := [.int x2, .int x1, .ref 8]) rfl ?_
  refine Ok_st (l := (gA c 5)) (hn := fun l' => HP (sA c 5 l') r) rfl rfl (fun l' => sa_8 _ _ l') (fun w2 hw2 => ?_)
  refine Ok_blk 1 (pc2 := 9) (lo2 := [some (.ref 8), some (.int x1), some (.int x2), some (.int y1)]) (st2 := [.int y1]) rfl ?_
  exact Ok_ret rfl rfl rfl
set_option maxHeartbeats 8000000 in
set_option maxRecDepth 100000 in
theorem tm_C_change (N d : Nat) (xs : List Int32) (c r : St) (a1 : Int32) (a2 : Int32) (p : Int32 × St) (hp : C_change N c a1 a2 = some p) : mBig (mRoL xs) (d + 1) 105 [.ref 8, .int a1, .int a2] (HP c r) (some (.int p.1)) (HP p.2 r) 0 0 := mBig_of (by decide) rfl rfl rfl rfl (t_C_change N d xs r c a1 a2 p hp)
/-! ColdHolds.warm(II)I, from (('r', 0), 'i', 'i') -/
def C_warm (N : Nat) (c : St) (x1 : Int32) (x2 : Int32) : Option (Int32 × St) :=
  (C_isCell N x1).bind fun p1 => (if ¬ p1 = 0 then (C_isWarmth N x2).bind fun p3 => (if ¬ p3 = 0 then (C_change N c x1 x2).bind fun p5 => some (p5.1, p5.2) else some ((-1002), c)) else some ((-1001), c))
set_option maxHeartbeats 8000000 in
set_option maxRecDepth 100000 in
theorem t_C_warm (N d : Nat) (xs : List Int32) (r : St) (c : St) (x1 : Int32) (x2 : Int32) : Ok (mBig (mRoL xs) (d + 2)) (mRoL xs) 1 mK109 (fun p : Int32 × St => (some (.int p.1), HP p.2 r)) (C_warm N c x1 x2) 0 [some (.ref 0), some (.int x1), some (.int x2)] [] (HP c r) := by
  unfold C_warm
  refine Ok_blk 1 (pc2 := 1) (lo2 := [some (.ref 0), some (.int x1), some (.int x2)]) (st2 := [.int x1]) rfl ?_
  refine Ok_call (y := 103) (as := [.int x1]) (rest := []) (w := fun p1 => some (.int p1)) (h1 := fun p1 => HP c r) rfl rfl (fun x hx => tm_C_isCell N d xs c r x1 x hx) (fun p1 hp1 => ?_)
  refine Ok_blk 1 (pc2 := (if ¬ p1 = 0 then 11 else 7)) (lo2 := [some (.ref 0), some (.int x1), some (.int x2)]) (st2 := []) rfl ?_
  refine Ok_if (fun h2 => ?_) (fun h2 => ?_)
  · refine Ok_blk 1 (pc2 := 12) (lo2 := [some (.ref 0), some (.int x1), some (.int x2)]) (st2 := [.int x2]) rfl ?_
    refine Ok_call (y := 104) (as := [.int x2]) (rest := []) (w := fun p3 => some (.int p3)) (h1 := fun p3 => HP c r) rfl rfl (fun x hx => tm_C_isWarmth N d xs c r x2 x hx) (fun p3 hp3 => ?_)
    refine Ok_blk 1 (pc2 := (if ¬ p3 = 0 then 22 else 18)) (lo2 := [some (.ref 0), some (.int x1), some (.int x2)]) (st2 := []) rfl ?_
    refine Ok_if (fun h4 => ?_) (fun h4 => ?_)
    · refine Ok_blk 5 (pc2 := 31) (lo2 := [some (.ref 0), some (.int x1), some (.int x2)]) (st2 := [.int x2, .int x1, .ref 8]) rfl ?_
      refine Ok_call (y := 105) (as := [.ref 8, .int x1, .int x2]) (rest := []) (w := fun p5 => some (.int p5.1)) (h1 := fun p5 => HP p5.2 r) rfl rfl (fun x hx => tm_C_change N (d + 1) xs c r x1 x2 x hx) (fun p5 hp5 => ?_)
      exact Ok_ret rfl rfl rfl
    · refine Ok_blk 1 (pc2 := 21) (lo2 := [some (.ref 0), some (.int x1), some (.int x2)]) (st2 := [.int (-1002)]) rfl ?_
      exact Ok_ret rfl rfl rfl
  · refine Ok_blk 1 (pc2 := 10) (lo2 := [some (.ref 0), some (.int x1), some (.int x2)]) (st2 := [.int (-1001)]) rfl ?_
    exact Ok_ret rfl rfl rfl
set_option maxHeartbeats 8000000 in
set_option maxRecDepth 100000 in
theorem tm_C_warm (N d : Nat) (xs : List Int32) (c r : St) (a1 : Int32) (a2 : Int32) (p : Int32 × St) (hp : C_warm N c a1 a2 = some p) : mBig (mRoL xs) (d + 3) 109 [.ref 0, .int a1, .int a2] (HP c r) (some (.int p.1)) (HP p.2 r) 0 0 := mBig_of (by decide) rfl rfl rfl rfl (t_C_warm N d xs r c a1 a2 p hp)
/-! ColdHoldsModel.isCell(I)Z, from ('i',) -/
def R_isCell (N : Nat) (x0 : Int32) : Option (Int32) :=
  (R_in N x0 0 11).bind fun p1 => some p1
set_option maxHeartbeats 8000000 in
set_option maxRecDepth 100000 in
theorem t_R_isCell (N d : Nat) (xs : List Int32) (c : St) (r : St) (x0 : Int32) : Ok (mBig (mRoL xs) (d + 1)) (mRoL xs) 2 mK165 (fun p : Int32 => (some (.int p), HP c r)) (R_isCell N x0) 0 [some (.int x0)] [] (HP c r) := by
  unfold R_isCell
  refine Ok_blk 3 (pc2 := 4) (lo2 := [some (.int x0)]) (st2 := [.int 11, .int 0, .int x0]) rfl ?_
  refine Ok_call (y := 164) (as := [.int x0, .int 0, .int 11]) (rest := []) (w := fun p1 => some (.int p1)) (h1 := fun p1 => HP c r) rfl rfl (fun x hx => tm_R_in N d xs c r x0 0 11 x hx) (fun p1 hp1 => ?_)
  exact Ok_rez (mBig_z (tm_R_in N d xs c r x0 0 11 p1 hp1) rfl) rfl rfl
set_option maxHeartbeats 8000000 in
set_option maxRecDepth 100000 in
theorem tm_R_isCell (N d : Nat) (xs : List Int32) (c r : St) (a0 : Int32) (p : Int32) (hp : R_isCell N a0 = some p) : mBig (mRoL xs) (d + 2) 165 [.int a0] (HP c r) (some (.int p)) (HP c r) 0 0 := mBig_of (by decide) rfl rfl rfl rfl (t_R_isCell N d xs c r a0 p hp)
/-! ColdHoldsModel.warm(II)I, from (('r', 115), 'i', 'i') -/
def R_warm (N : Nat) (r : St) (x1 : Int32) (x2 : Int32) : Option (Int32 × St) :=
  (R_isCell N x1).bind fun p1 => (if ¬ p1 = 0 then (R_in N x2 (-300) 600).bind fun p3 => (if ¬ p3 = 0 then (ld (gA r 0) x1).bind fun y5 => (sto (gA r 0) x1 x2).bind fun w6 => some (y5, sA r 0 w6) else some ((-1002), r)) else some ((-1001), r))
set_option maxHeartbeats 8000000 in
set_option maxRecDepth 100000 in
theorem t_R_warm (N d : Nat) (xs : List Int32) (c : St) (r : St) (x1 : Int32) (x2 : Int32) : Ok (mBig (mRoL xs) (d + 2)) (mRoL xs) 1 mK168 (fun p : Int32 × St => (some (.int p.1), HP c p.2)) (R_warm N r x1 x2) 0 [some (.ref 115), some (.int x1), some (.int x2), none] [] (HP c r) := by
  unfold R_warm
  refine Ok_blk 1 (pc2 := 1) (lo2 := [some (.ref 115), some (.int x1), some (.int x2), none]) (st2 := [.int x1]) rfl ?_
  refine Ok_call (y := 165) (as := [.int x1]) (rest := []) (w := fun p1 => some (.int p1)) (h1 := fun p1 => HP c r) rfl rfl (fun x hx => tm_R_isCell N d xs c r x1 x hx) (fun p1 hp1 => ?_)
  refine Ok_blk 1 (pc2 := (if ¬ p1 = 0 then 11 else 7)) (lo2 := [some (.ref 115), some (.int x1), some (.int x2), none]) (st2 := []) rfl ?_
  refine Ok_if (fun h2 => ?_) (fun h2 => ?_)
  · refine Ok_blk 3 (pc2 := 18) (lo2 := [some (.ref 115), some (.int x1), some (.int x2), none]) (st2 := [.int 600, .int (-300), .int x2]) rfl ?_
    refine Ok_call (y := 164) (as := [.int x2, .int (-300), .int 600]) (rest := []) (w := fun p3 => some (.int p3)) (h1 := fun p3 => HP c r) rfl rfl (fun x hx => tm_R_in N (d + 1) xs c r x2 (-300) 600 x hx) (fun p3 hp3 => ?_)
    refine Ok_blk 1 (pc2 := (if ¬ p3 = 0 then 28 else 24)) (lo2 := [some (.ref 115), some (.int x1), some (.int x2), none]) (st2 := []) rfl ?_
    refine Ok_if (fun h4 => ?_) (fun h4 => ?_)
    · refine Ok_blk 3 (pc2 := 33) (lo2 := [some (.ref 115), some (.int x1), some (.int x2), none]) (st2 := [.int x1, .ref 116]) rfl ?_
      refine Ok_ld (l := (gA r 0)) rfl rfl (fun y5 hy5 => ?_)
      refine Ok_blk 5 (pc2 := 41) (lo2 := [some (.ref 115), some (.int x1), some (.int x2), some (.int y5)]) (st2 := [.int x2, .int x1, .ref 116]) rfl ?_
      refine Ok_st (l := (gA r 0)) (hn := fun l' => HP c (sA r 0 l')) rfl rfl (fun l' => sa_116 _ _ l') (fun w6 hw6 => ?_)
      refine Ok_blk 1 (pc2 := 43) (lo2 := [some (.ref 115), some (.int x1), some (.int x2), some (.int y5)]) (st2 := [.int y5]) rfl ?_
      exact Ok_ret rfl rfl rfl
    · refine Ok_blk 1 (pc2 := 27) (lo2 := [some (.ref 115), some (.int x1), some (.int x2), none]) (st2 := [.int (-1002)]) rfl ?_
      exact Ok_ret rfl rfl rfl
  · refine Ok_blk 1 (pc2 := 10) (lo2 := [some (.ref 115), some (.int x1), some (.int x2), none]) (st2 := [.int (-1001)]) rfl ?_
    exact Ok_ret rfl rfl rfl
set_option maxHeartbeats 8000000 in
set_option maxRecDepth 100000 in
theorem tm_R_warm (N d : Nat) (xs : List Int32) (c r : St) (a1 : Int32) (a2 : Int32) (p : Int32 × St) (hp : R_warm N r a1 a2 = some p) : mBig (mRoL xs) (d + 3) 168 [.ref 115, .int a1, .int a2] (HP c r) (some (.int p.1)) (HP c p.2) 0 0 := mBig_of (by decide) rfl rfl rfl rfl (t_R_warm N d xs c r a1 a2 p hp)
/-! ColdHolds.warmth(I)I, from (('r', 0), 'i') -/
def C_warmth (N : Nat) (c : St) (x1 : Int32) : Option (Int32) :=
  (C_isCell N x1).bind fun p1 => (if p1 = 0 then some (-1001) else (ld (gA c 5) x1).bind fun y3 => some y3)
set_option maxHeartbeats 8000000 in
set_option maxRecDepth 100000 in
theorem t_C_warmth (N d : Nat) (xs : List Int32) (c : St) (r : St) (x1 : Int32) : Ok (mBig (mRoL xs) (d + 2)) (mRoL xs) 1 mK110 (fun p : Int32 => (some (.int p), HP c r)) (C_warmth N c x1) 0 [some (.ref 0), some (.int x1)] [] (HP c r) := by
  unfold C_warmth
  refine Ok_blk 1 (pc2 := 1) (lo2 := [some (.ref 0), some (.int x1)]) (st2 := [.int x1]) rfl ?_
  refine Ok_call (y := 103) (as := [.int x1]) (rest := []) (w := fun p1 => some (.int p1)) (h1 := fun p1 => HP c r) rfl rfl (fun x hx => tm_C_isCell N d xs c r x1 x hx) (fun p1 hp1 => ?_)
  refine Ok_blk 1 (pc2 := (if p1 = 0 then 19 else 7)) (lo2 := [some (.ref 0), some (.int x1)]) (st2 := []) rfl ?_
  refine Ok_if (fun h2 => ?_) (fun h2 => ?_)
  · refine Ok_blk 1 (pc2 := 22) (lo2 := [some (.ref 0), some (.int x1)]) (st2 := [.int (-1001)]) rfl ?_
    exact Ok_ret rfl rfl rfl
  · refine Ok_blk 4 (pc2 := 15) (lo2 := [some (.ref 0), some (.int x1)]) (st2 := [.int x1, .ref 8]) rfl ?_
    refine Ok_ld (l := (gA c 5)) rfl rfl (fun y3 hy3 => ?_)
    refine Ok_blk 1 (pc2 := 22) (lo2 := [some (.ref 0), some (.int x1)]) (st2 := [.int y3]) rfl ?_
    exact Ok_ret rfl rfl rfl
set_option maxHeartbeats 8000000 in
set_option maxRecDepth 100000 in
theorem tm_C_warmth (N d : Nat) (xs : List Int32) (c r : St) (a1 : Int32) (p : Int32) (hp : C_warmth N c a1 = some p) : mBig (mRoL xs) (d + 3) 110 [.ref 0, .int a1] (HP c r) (some (.int p)) (HP c r) 0 0 := mBig_of (by decide) rfl rfl rfl rfl (t_C_warmth N d xs c r a1 p hp)
end
