section
-- ===== PART A: goes FIRST, ahead of the names: the tables' words, and 'selects' of the private methods out of them =====
/-- a private method of a class that the tables say can be made, by its rows of tables_1 -/
def lw_okq (q : MethodName × Nat) : Prop := (q.1.cls ≠ "java/lang/invoke/MethodHandle" ∧ q.1.cls ≠ "java/lang/invoke/VarHandle") ∧ Cond.instantiable q.1.cls q.2 ∈ tables_1 ∧ Cond.privateMethod q.1 ∈ tables_1 ∧ Cond.instanceMethod q.1 ∈ tables_1
theorem lw_p0 : lw_okq (⟨"java/util/ArrayList", "add", "(Ljava/lang/Object;[Ljava/lang/Object;I)V"⟩, 3) := ⟨⟨by decide +kernel, by decide +kernel⟩, List.mem_of_getElem? (i := 36) (by decide +kernel), List.mem_of_getElem? (i := 105) (by decide +kernel), List.mem_of_getElem? (i := 106) (by decide +kernel)⟩
theorem lw_p1 : lw_okq (⟨"java/util/ArrayList", "grow", "()[Ljava/lang/Object;"⟩, 3) := ⟨⟨by decide +kernel, by decide +kernel⟩, List.mem_of_getElem? (i := 36) (by decide +kernel), List.mem_of_getElem? (i := 109) (by decide +kernel), List.mem_of_getElem? (i := 110) (by decide +kernel)⟩
theorem lw_p2 : lw_okq (⟨"java/util/ArrayList", "grow", "(I)[Ljava/lang/Object;"⟩, 3) := ⟨⟨by decide +kernel, by decide +kernel⟩, List.mem_of_getElem? (i := 36) (by decide +kernel), List.mem_of_getElem? (i := 113) (by decide +kernel), List.mem_of_getElem? (i := 114) (by decide +kernel)⟩
theorem lw_p3 : lw_okq (⟨"ChargeYard", "firmAt", "(I)LChargeYard$Firm;"⟩, 11) := ⟨⟨by decide +kernel, by decide +kernel⟩, List.mem_of_getElem? (i := 28) (by decide +kernel), List.mem_of_getElem? (i := 211) (by decide +kernel), List.mem_of_getElem? (i := 212) (by decide +kernel)⟩
theorem lw_p4 : lw_okq (⟨"java/lang/Throwable", "fillInStackTrace", "(I)Ljava/lang/Throwable;"⟩, 6) := ⟨⟨by decide +kernel, by decide +kernel⟩, List.mem_of_getElem? (i := 257) (by decide +kernel), List.mem_of_getElem? (i := 255) (by decide +kernel), List.mem_of_getElem? (i := 256) (by decide +kernel)⟩
theorem lw_p5 : lw_okq (⟨"ChargeYard", "cardAt", "(I)LChargeYard$Card;"⟩, 11) := ⟨⟨by decide +kernel, by decide +kernel⟩, List.mem_of_getElem? (i := 28) (by decide +kernel), List.mem_of_getElem? (i := 460) (by decide +kernel), List.mem_of_getElem? (i := 461) (by decide +kernel)⟩
theorem lw_p6 : lw_okq (⟨"ChargeYard", "setLimit", "(I)I"⟩, 11) := ⟨⟨by decide +kernel, by decide +kernel⟩, List.mem_of_getElem? (i := 28) (by decide +kernel), List.mem_of_getElem? (i := 472) (by decide +kernel), List.mem_of_getElem? (i := 473) (by decide +kernel)⟩
theorem lw_p7 : lw_okq (⟨"ChargeYard", "setSun", "(I)I"⟩, 11) := ⟨⟨by decide +kernel, by decide +kernel⟩, List.mem_of_getElem? (i := 28) (by decide +kernel), List.mem_of_getElem? (i := 477) (by decide +kernel), List.mem_of_getElem? (i := 478) (by decide +kernel)⟩
theorem lw_p8 : lw_okq (⟨"ChargeYard", "setDegrees", "(I)I"⟩, 11) := ⟨⟨by decide +kernel, by decide +kernel⟩, List.mem_of_getElem? (i := 28) (by decide +kernel), List.mem_of_getElem? (i := 482) (by decide +kernel), List.mem_of_getElem? (i := 483) (by decide +kernel)⟩
theorem lw_p9 : lw_okq (⟨"ChargeYard", "socketAt", "(I)LChargeYard$Socket;"⟩, 11) := ⟨⟨by decide +kernel, by decide +kernel⟩, List.mem_of_getElem? (i := 28) (by decide +kernel), List.mem_of_getElem? (i := 493) (by decide +kernel), List.mem_of_getElem? (i := 494) (by decide +kernel)⟩
theorem lw_p10 : lw_okq (⟨"ChargeYard", "hearWaiting", "(LChargeYard$Socket;)I"⟩, 11) := ⟨⟨by decide +kernel, by decide +kernel⟩, List.mem_of_getElem? (i := 28) (by decide +kernel), List.mem_of_getElem? (i := 505) (by decide +kernel), List.mem_of_getElem? (i := 506) (by decide +kernel)⟩
theorem lw_p11 : lw_okq (⟨"ChargeYard$Values", "takeInto", "(LChargeYard$Tally;I)V"⟩, 5) := ⟨⟨by decide +kernel, by decide +kernel⟩, List.mem_of_getElem? (i := 516) (by decide +kernel), List.mem_of_getElem? (i := 514) (by decide +kernel), List.mem_of_getElem? (i := 515) (by decide +kernel)⟩
theorem lw_p12 : lw_okq (⟨"ChargeYard", "goDown", "(LChargeYard$Socket;)V"⟩, 11) := ⟨⟨by decide +kernel, by decide +kernel⟩, List.mem_of_getElem? (i := 28) (by decide +kernel), List.mem_of_getElem? (i := 548) (by decide +kernel), List.mem_of_getElem? (i := 549) (by decide +kernel)⟩
theorem lw_p13 : lw_okq (⟨"ChargeYard", "carAt", "(I)LChargeYard$Car;"⟩, 11) := ⟨⟨by decide +kernel, by decide +kernel⟩, List.mem_of_getElem? (i := 28) (by decide +kernel), List.mem_of_getElem? (i := 598) (by decide +kernel), List.mem_of_getElem? (i := 599) (by decide +kernel)⟩
theorem lw_p14 : lw_okq (⟨"ChargeYard", "refusalOf", "(LChargeYard$Socket;LChargeYard$Car;LChargeYard$Card;)I"⟩, 11) := ⟨⟨by decide +kernel, by decide +kernel⟩, List.mem_of_getElem? (i := 28) (by decide +kernel), List.mem_of_getElem? (i := 603) (by decide +kernel), List.mem_of_getElem? (i := 604) (by decide +kernel)⟩
theorem lw_p15 : lw_okq (⟨"ChargeYard", "isBookedByAnother", "(LChargeYard$Socket;LChargeYard$Card;)Z"⟩, 11) := ⟨⟨by decide +kernel, by decide +kernel⟩, List.mem_of_getElem? (i := 28) (by decide +kernel), List.mem_of_getElem? (i := 607) (by decide +kernel), List.mem_of_getElem? (i := 608) (by decide +kernel)⟩
def lw_privs_1 : List (MethodName × Nat) := [(⟨"java/util/ArrayList", "add", "(Ljava/lang/Object;[Ljava/lang/Object;I)V"⟩, 3), (⟨"java/util/ArrayList", "grow", "()[Ljava/lang/Object;"⟩, 3), (⟨"java/util/ArrayList", "grow", "(I)[Ljava/lang/Object;"⟩, 3), (⟨"ChargeYard", "firmAt", "(I)LChargeYard$Firm;"⟩, 11), (⟨"java/lang/Throwable", "fillInStackTrace", "(I)Ljava/lang/Throwable;"⟩, 6), (⟨"ChargeYard", "cardAt", "(I)LChargeYard$Card;"⟩, 11), (⟨"ChargeYard", "setLimit", "(I)I"⟩, 11), (⟨"ChargeYard", "setSun", "(I)I"⟩, 11), (⟨"ChargeYard", "setDegrees", "(I)I"⟩, 11), (⟨"ChargeYard", "socketAt", "(I)LChargeYard$Socket;"⟩, 11), (⟨"ChargeYard", "hearWaiting", "(LChargeYard$Socket;)I"⟩, 11), (⟨"ChargeYard$Values", "takeInto", "(LChargeYard$Tally;I)V"⟩, 5), (⟨"ChargeYard", "goDown", "(LChargeYard$Socket;)V"⟩, 11), (⟨"ChargeYard", "carAt", "(I)LChargeYard$Car;"⟩, 11), (⟨"ChargeYard", "refusalOf", "(LChargeYard$Socket;LChargeYard$Car;LChargeYard$Card;)I"⟩, 11), (⟨"ChargeYard", "isBookedByAnother", "(LChargeYard$Socket;LChargeYard$Card;)Z"⟩, 11)]
theorem lw_r1 : ∀ q ∈ lw_privs_1, lw_okq q := List.forall_mem_cons.mpr ⟨lw_p0, List.forall_mem_cons.mpr ⟨lw_p1, List.forall_mem_cons.mpr ⟨lw_p2, List.forall_mem_cons.mpr ⟨lw_p3, List.forall_mem_cons.mpr ⟨lw_p4, List.forall_mem_cons.mpr ⟨lw_p5, List.forall_mem_cons.mpr ⟨lw_p6, List.forall_mem_cons.mpr ⟨lw_p7, List.forall_mem_cons.mpr ⟨lw_p8, List.forall_mem_cons.mpr ⟨lw_p9, List.forall_mem_cons.mpr ⟨lw_p10, List.forall_mem_cons.mpr ⟨lw_p11, List.forall_mem_cons.mpr ⟨lw_p12, List.forall_mem_cons.mpr ⟨lw_p13, List.forall_mem_cons.mpr ⟨lw_p14, List.forall_mem_cons.mpr ⟨lw_p15, fun _ h => absurd h List.not_mem_nil⟩⟩⟩⟩⟩⟩⟩⟩⟩⟩⟩⟩⟩⟩⟩⟩
theorem lw_p16 : lw_okq (⟨"ChargeYard", "begin", "(LChargeYard$Session;)V"⟩, 11) := ⟨⟨by decide +kernel, by decide +kernel⟩, List.mem_of_getElem? (i := 28) (by decide +kernel), List.mem_of_getElem? (i := 724) (by decide +kernel), List.mem_of_getElem? (i := 725) (by decide +kernel)⟩
theorem lw_p17 : lw_okq (⟨"ChargeYard", "useBooking", "(LChargeYard$Socket;LChargeYard$Card;)V"⟩, 11) := ⟨⟨by decide +kernel, by decide +kernel⟩, List.mem_of_getElem? (i := 28) (by decide +kernel), List.mem_of_getElem? (i := 728) (by decide +kernel), List.mem_of_getElem? (i := 729) (by decide +kernel)⟩
theorem lw_p18 : lw_okq (⟨"java/util/ArrayList", "fastRemove", "([Ljava/lang/Object;I)V"⟩, 3) := ⟨⟨by decide +kernel, by decide +kernel⟩, List.mem_of_getElem? (i := 36) (by decide +kernel), List.mem_of_getElem? (i := 736) (by decide +kernel), List.mem_of_getElem? (i := 737) (by decide +kernel)⟩
theorem lw_p19 : lw_okq (⟨"ChargeYard", "sessionAt", "(I)LChargeYard$Session;"⟩, 11) := ⟨⟨by decide +kernel, by decide +kernel⟩, List.mem_of_getElem? (i := 28) (by decide +kernel), List.mem_of_getElem? (i := 748) (by decide +kernel), List.mem_of_getElem? (i := 749) (by decide +kernel)⟩
theorem lw_p20 : lw_okq (⟨"ChargeYard", "leaveRunning", "(LChargeYard$Session;)V"⟩, 11) := ⟨⟨by decide +kernel, by decide +kernel⟩, List.mem_of_getElem? (i := 28) (by decide +kernel), List.mem_of_getElem? (i := 754) (by decide +kernel), List.mem_of_getElem? (i := 755) (by decide +kernel)⟩
theorem lw_p21 : lw_okq (⟨"ChargeYard", "passMinute", "()V"⟩, 11) := ⟨⟨by decide +kernel, by decide +kernel⟩, List.mem_of_getElem? (i := 28) (by decide +kernel), List.mem_of_getElem? (i := 766) (by decide +kernel), List.mem_of_getElem? (i := 767) (by decide +kernel)⟩
theorem lw_p22 : lw_okq (⟨"ChargeYard", "serveFirst", "()I"⟩, 11) := ⟨⟨by decide +kernel, by decide +kernel⟩, List.mem_of_getElem? (i := 28) (by decide +kernel), List.mem_of_getElem? (i := 770) (by decide +kernel), List.mem_of_getElem? (i := 771) (by decide +kernel)⟩
theorem lw_p23 : lw_okq (⟨"ChargeYard", "serveRanks", "(IZ)I"⟩, 11) := ⟨⟨by decide +kernel, by decide +kernel⟩, List.mem_of_getElem? (i := 28) (by decide +kernel), List.mem_of_getElem? (i := 789) (by decide +kernel), List.mem_of_getElem? (i := 790) (by decide +kernel)⟩
theorem lw_p24 : lw_okq (⟨"ChargeYard", "shareByLevels", "(I)V"⟩, 11) := ⟨⟨by decide +kernel, by decide +kernel⟩, List.mem_of_getElem? (i := 28) (by decide +kernel), List.mem_of_getElem? (i := 793) (by decide +kernel), List.mem_of_getElem? (i := 794) (by decide +kernel)⟩
theorem lw_p25 : lw_okq (⟨"ChargeYard", "raise", "(II)V"⟩, 11) := ⟨⟨by decide +kernel, by decide +kernel⟩, List.mem_of_getElem? (i := 28) (by decide +kernel), List.mem_of_getElem? (i := 801) (by decide +kernel), List.mem_of_getElem? (i := 802) (by decide +kernel)⟩
theorem lw_p26 : lw_okq (⟨"ChargeYard", "listCards", "()V"⟩, 11) := ⟨⟨by decide +kernel, by decide +kernel⟩, List.mem_of_getElem? (i := 28) (by decide +kernel), List.mem_of_getElem? (i := 827) (by decide +kernel), List.mem_of_getElem? (i := 828) (by decide +kernel)⟩
theorem lw_p27 : lw_okq (⟨"ChargeYard", "dropLateBookings", "()V"⟩, 11) := ⟨⟨by decide +kernel, by decide +kernel⟩, List.mem_of_getElem? (i := 28) (by decide +kernel), List.mem_of_getElem? (i := 831) (by decide +kernel), List.mem_of_getElem? (i := 832) (by decide +kernel)⟩
theorem lw_p28 : lw_okq (⟨"ChargeYard", "shareWattByWatt", "(I)V"⟩, 11) := ⟨⟨by decide +kernel, by decide +kernel⟩, List.mem_of_getElem? (i := 28) (by decide +kernel), List.mem_of_getElem? (i := 869) (by decide +kernel), List.mem_of_getElem? (i := 870) (by decide +kernel)⟩
theorem lw_p29 : lw_okq (⟨"ChargeYardModel", "stop", "(I)I"⟩, 50) := ⟨⟨by decide +kernel, by decide +kernel⟩, List.mem_of_getElem? (i := 917) (by decide +kernel), List.mem_of_getElem? (i := 1089) (by decide +kernel), List.mem_of_getElem? (i := 1090) (by decide +kernel)⟩
theorem lw_p30 : lw_okq (⟨"ChargeYardModel", "isCard", "(I)Z"⟩, 50) := ⟨⟨by decide +kernel, by decide +kernel⟩, List.mem_of_getElem? (i := 917) (by decide +kernel), List.mem_of_getElem? (i := 1107) (by decide +kernel), List.mem_of_getElem? (i := 1108) (by decide +kernel)⟩
theorem lw_p31 : lw_okq (⟨"ChargeYardModel", "refuse", "(I)Z"⟩, 50) := ⟨⟨by decide +kernel, by decide +kernel⟩, List.mem_of_getElem? (i := 917) (by decide +kernel), List.mem_of_getElem? (i := 1111) (by decide +kernel), List.mem_of_getElem? (i := 1112) (by decide +kernel)⟩
def lw_privs_2 : List (MethodName × Nat) := [(⟨"ChargeYard", "begin", "(LChargeYard$Session;)V"⟩, 11), (⟨"ChargeYard", "useBooking", "(LChargeYard$Socket;LChargeYard$Card;)V"⟩, 11), (⟨"java/util/ArrayList", "fastRemove", "([Ljava/lang/Object;I)V"⟩, 3), (⟨"ChargeYard", "sessionAt", "(I)LChargeYard$Session;"⟩, 11), (⟨"ChargeYard", "leaveRunning", "(LChargeYard$Session;)V"⟩, 11), (⟨"ChargeYard", "passMinute", "()V"⟩, 11), (⟨"ChargeYard", "serveFirst", "()I"⟩, 11), (⟨"ChargeYard", "serveRanks", "(IZ)I"⟩, 11), (⟨"ChargeYard", "shareByLevels", "(I)V"⟩, 11), (⟨"ChargeYard", "raise", "(II)V"⟩, 11), (⟨"ChargeYard", "listCards", "()V"⟩, 11), (⟨"ChargeYard", "dropLateBookings", "()V"⟩, 11), (⟨"ChargeYard", "shareWattByWatt", "(I)V"⟩, 11), (⟨"ChargeYardModel", "stop", "(I)I"⟩, 50), (⟨"ChargeYardModel", "isCard", "(I)Z"⟩, 50), (⟨"ChargeYardModel", "refuse", "(I)Z"⟩, 50)]
theorem lw_r2 : ∀ q ∈ lw_privs_2, lw_okq q := List.forall_mem_cons.mpr ⟨lw_p16, List.forall_mem_cons.mpr ⟨lw_p17, List.forall_mem_cons.mpr ⟨lw_p18, List.forall_mem_cons.mpr ⟨lw_p19, List.forall_mem_cons.mpr ⟨lw_p20, List.forall_mem_cons.mpr ⟨lw_p21, List.forall_mem_cons.mpr ⟨lw_p22, List.forall_mem_cons.mpr ⟨lw_p23, List.forall_mem_cons.mpr ⟨lw_p24, List.forall_mem_cons.mpr ⟨lw_p25, List.forall_mem_cons.mpr ⟨lw_p26, List.forall_mem_cons.mpr ⟨lw_p27, List.forall_mem_cons.mpr ⟨lw_p28, List.forall_mem_cons.mpr ⟨lw_p29, List.forall_mem_cons.mpr ⟨lw_p30, List.forall_mem_cons.mpr ⟨lw_p31, fun _ h => absurd h List.not_mem_nil⟩⟩⟩⟩⟩⟩⟩⟩⟩⟩⟩⟩⟩⟩⟩⟩
theorem lw_p32 : lw_okq (⟨"ChargeYardModel", "isSocket", "(I)Z"⟩, 50) := ⟨⟨by decide +kernel, by decide +kernel⟩, List.mem_of_getElem? (i := 917) (by decide +kernel), List.mem_of_getElem? (i := 1125) (by decide +kernel), List.mem_of_getElem? (i := 1126) (by decide +kernel)⟩
theorem lw_p33 : lw_okq (⟨"ChargeYardModel", "hear", "(I)I"⟩, 50) := ⟨⟨by decide +kernel, by decide +kernel⟩, List.mem_of_getElem? (i := 917) (by decide +kernel), List.mem_of_getElem? (i := 1133) (by decide +kernel), List.mem_of_getElem? (i := 1134) (by decide +kernel)⟩
theorem lw_p34 : lw_okq (⟨"ChargeYardModel", "payFor", "(I)V"⟩, 50) := ⟨⟨by decide +kernel, by decide +kernel⟩, List.mem_of_getElem? (i := 917) (by decide +kernel), List.mem_of_getElem? (i := 1137) (by decide +kernel), List.mem_of_getElem? (i := 1138) (by decide +kernel)⟩
theorem lw_p35 : lw_okq (⟨"ChargeYardModel", "billBy", "(IIII)I"⟩, 50) := ⟨⟨by decide +kernel, by decide +kernel⟩, List.mem_of_getElem? (i := 917) (by decide +kernel), List.mem_of_getElem? (i := 1141) (by decide +kernel), List.mem_of_getElem? (i := 1142) (by decide +kernel)⟩
theorem lw_p36 : lw_okq (⟨"ChargeYardModel", "owe", "(II)V"⟩, 50) := ⟨⟨by decide +kernel, by decide +kernel⟩, List.mem_of_getElem? (i := 917) (by decide +kernel), List.mem_of_getElem? (i := 1148) (by decide +kernel), List.mem_of_getElem? (i := 1149) (by decide +kernel)⟩
theorem lw_p37 : lw_okq (⟨"ChargeYardModel", "holding", "(I)I"⟩, 50) := ⟨⟨by decide +kernel, by decide +kernel⟩, List.mem_of_getElem? (i := 917) (by decide +kernel), List.mem_of_getElem? (i := 1164) (by decide +kernel), List.mem_of_getElem? (i := 1165) (by decide +kernel)⟩
theorem lw_p38 : lw_okq (⟨"ChargeYardModel", "isAway", "(I)Z"⟩, 50) := ⟨⟨by decide +kernel, by decide +kernel⟩, List.mem_of_getElem? (i := 917) (by decide +kernel), List.mem_of_getElem? (i := 1168) (by decide +kernel), List.mem_of_getElem? (i := 1169) (by decide +kernel)⟩
theorem lw_p39 : lw_okq (⟨"ChargeYardModel", "goes", "(II)V"⟩, 50) := ⟨⟨by decide +kernel, by decide +kernel⟩, List.mem_of_getElem? (i := 917) (by decide +kernel), List.mem_of_getElem? (i := 1172) (by decide +kernel), List.mem_of_getElem? (i := 1173) (by decide +kernel)⟩
theorem lw_p40 : lw_okq (⟨"ChargeYardModel", "isSession", "(I)Z"⟩, 50) := ⟨⟨by decide +kernel, by decide +kernel⟩, List.mem_of_getElem? (i := 917) (by decide +kernel), List.mem_of_getElem? (i := 1180) (by decide +kernel), List.mem_of_getElem? (i := 1181) (by decide +kernel)⟩
theorem lw_p41 : lw_okq (⟨"ChargeYardModel", "passOne", "()V"⟩, 50) := ⟨⟨by decide +kernel, by decide +kernel⟩, List.mem_of_getElem? (i := 917) (by decide +kernel), List.mem_of_getElem? (i := 1188) (by decide +kernel), List.mem_of_getElem? (i := 1189) (by decide +kernel)⟩
theorem lw_p42 : lw_okq (⟨"ChargeYardModel", "find", "()I"⟩, 50) := ⟨⟨by decide +kernel, by decide +kernel⟩, List.mem_of_getElem? (i := 917) (by decide +kernel), List.mem_of_getElem? (i := 1192) (by decide +kernel), List.mem_of_getElem? (i := 1193) (by decide +kernel)⟩
theorem lw_p43 : lw_okq (⟨"ChargeYardModel", "wants", "(I)I"⟩, 50) := ⟨⟨by decide +kernel, by decide +kernel⟩, List.mem_of_getElem? (i := 917) (by decide +kernel), List.mem_of_getElem? (i := 1196) (by decide +kernel), List.mem_of_getElem? (i := 1197) (by decide +kernel)⟩
theorem lw_p44 : lw_okq (⟨"ChargeYardModel", "cap", "(I)I"⟩, 50) := ⟨⟨by decide +kernel, by decide +kernel⟩, List.mem_of_getElem? (i := 917) (by decide +kernel), List.mem_of_getElem? (i := 1202) (by decide +kernel), List.mem_of_getElem? (i := 1203) (by decide +kernel)⟩
theorem lw_p45 : lw_okq (⟨"ChargeYardModel", "serve", "(IZ)I"⟩, 50) := ⟨⟨by decide +kernel, by decide +kernel⟩, List.mem_of_getElem? (i := 917) (by decide +kernel), List.mem_of_getElem? (i := 1206) (by decide +kernel), List.mem_of_getElem? (i := 1207) (by decide +kernel)⟩
theorem lw_p46 : lw_okq (⟨"ChargeYardModel", "behind", "(I)I"⟩, 50) := ⟨⟨by decide +kernel, by decide +kernel⟩, List.mem_of_getElem? (i := 917) (by decide +kernel), List.mem_of_getElem? (i := 1210) (by decide +kernel), List.mem_of_getElem? (i := 1211) (by decide +kernel)⟩
theorem lw_p47 : lw_okq (⟨"ChargeYardModel", "isServed", "(I)Z"⟩, 50) := ⟨⟨by decide +kernel, by decide +kernel⟩, List.mem_of_getElem? (i := 917) (by decide +kernel), List.mem_of_getElem? (i := 1214) (by decide +kernel), List.mem_of_getElem? (i := 1215) (by decide +kernel)⟩
def lw_privs_3 : List (MethodName × Nat) := [(⟨"ChargeYardModel", "isSocket", "(I)Z"⟩, 50), (⟨"ChargeYardModel", "hear", "(I)I"⟩, 50), (⟨"ChargeYardModel", "payFor", "(I)V"⟩, 50), (⟨"ChargeYardModel", "billBy", "(IIII)I"⟩, 50), (⟨"ChargeYardModel", "owe", "(II)V"⟩, 50), (⟨"ChargeYardModel", "holding", "(I)I"⟩, 50), (⟨"ChargeYardModel", "isAway", "(I)Z"⟩, 50), (⟨"ChargeYardModel", "goes", "(II)V"⟩, 50), (⟨"ChargeYardModel", "isSession", "(I)Z"⟩, 50), (⟨"ChargeYardModel", "passOne", "()V"⟩, 50), (⟨"ChargeYardModel", "find", "()I"⟩, 50), (⟨"ChargeYardModel", "wants", "(I)I"⟩, 50), (⟨"ChargeYardModel", "cap", "(I)I"⟩, 50), (⟨"ChargeYardModel", "serve", "(IZ)I"⟩, 50), (⟨"ChargeYardModel", "behind", "(I)I"⟩, 50), (⟨"ChargeYardModel", "isServed", "(I)Z"⟩, 50)]
theorem lw_r3 : ∀ q ∈ lw_privs_3, lw_okq q := List.forall_mem_cons.mpr ⟨lw_p32, List.forall_mem_cons.mpr ⟨lw_p33, List.forall_mem_cons.mpr ⟨lw_p34, List.forall_mem_cons.mpr ⟨lw_p35, List.forall_mem_cons.mpr ⟨lw_p36, List.forall_mem_cons.mpr ⟨lw_p37, List.forall_mem_cons.mpr ⟨lw_p38, List.forall_mem_cons.mpr ⟨lw_p39, List.forall_mem_cons.mpr ⟨lw_p40, List.forall_mem_cons.mpr ⟨lw_p41, List.forall_mem_cons.mpr ⟨lw_p42, List.forall_mem_cons.mpr ⟨lw_p43, List.forall_mem_cons.mpr ⟨lw_p44, List.forall_mem_cons.mpr ⟨lw_p45, List.forall_mem_cons.mpr ⟨lw_p46, List.forall_mem_cons.mpr ⟨lw_p47, fun _ h => absurd h List.not_mem_nil⟩⟩⟩⟩⟩⟩⟩⟩⟩⟩⟩⟩⟩⟩⟩⟩
theorem lw_p48 : lw_okq (⟨"ChargeYardModel", "isAhead", "(II)Z"⟩, 50) := ⟨⟨by decide +kernel, by decide +kernel⟩, List.mem_of_getElem? (i := 917) (by decide +kernel), List.mem_of_getElem? (i := 1218) (by decide +kernel), List.mem_of_getElem? (i := 1219) (by decide +kernel)⟩
theorem lw_p49 : lw_okq (⟨"ChargeYardModel", "share", "(I)V"⟩, 50) := ⟨⟨by decide +kernel, by decide +kernel⟩, List.mem_of_getElem? (i := 917) (by decide +kernel), List.mem_of_getElem? (i := 1222) (by decide +kernel), List.mem_of_getElem? (i := 1223) (by decide +kernel)⟩
theorem lw_p50 : lw_okq (⟨"ChargeYardModel", "isOpen", "(I)Z"⟩, 50) := ⟨⟨by decide +kernel, by decide +kernel⟩, List.mem_of_getElem? (i := 917) (by decide +kernel), List.mem_of_getElem? (i := 1226) (by decide +kernel), List.mem_of_getElem? (i := 1227) (by decide +kernel)⟩
theorem lw_p51 : lw_okq (⟨"ChargeYardModel", "lateGo", "()V"⟩, 50) := ⟨⟨by decide +kernel, by decide +kernel⟩, List.mem_of_getElem? (i := 917) (by decide +kernel), List.mem_of_getElem? (i := 1231) (by decide +kernel), List.mem_of_getElem? (i := 1232) (by decide +kernel)⟩
def lw_privs_4 : List (MethodName × Nat) := [(⟨"ChargeYardModel", "isAhead", "(II)Z"⟩, 50), (⟨"ChargeYardModel", "share", "(I)V"⟩, 50), (⟨"ChargeYardModel", "isOpen", "(I)Z"⟩, 50), (⟨"ChargeYardModel", "lateGo", "()V"⟩, 50)]
theorem lw_r4 : ∀ q ∈ lw_privs_4, lw_okq q := List.forall_mem_cons.mpr ⟨lw_p48, List.forall_mem_cons.mpr ⟨lw_p49, List.forall_mem_cons.mpr ⟨lw_p50, List.forall_mem_cons.mpr ⟨lw_p51, fun _ h => absurd h List.not_mem_nil⟩⟩⟩⟩
def lw_privs : List (MethodName × Nat) := lw_privs_1 ++ (lw_privs_2 ++ (lw_privs_3 ++ (lw_privs_4)))
def lw_tbl : List Cond := k2_sels lw_privs ++ tables_1
theorem lw_privs_ok : ∀ q ∈ lw_privs, lw_okq q := by
  show ∀ q ∈ lw_privs_1 ++ (lw_privs_2 ++ (lw_privs_3 ++ (lw_privs_4))), lw_okq q
  exact List.forall_mem_append.mpr ⟨lw_r1, List.forall_mem_append.mpr ⟨lw_r2, List.forall_mem_append.mpr ⟨lw_r3, lw_r4⟩⟩⟩
-- ===== end of PART A; then your names; then what follows =====
end
section
/-! ===== BEGIN words of one list among another's, by their places ===== -/
theorem goodIn_r {big : List Cond} (ws : List Cond) (ps : List Nat) (hp : ws = ps.filterMap (fun i => big[i]?)) (h : ws.all goodWord = true) : GoodIn big ws := by
  intro w hw
  have h1 := List.all_eq_true.mp h w hw
  rw [hp] at hw
  obtain ⟨i, -, hi⟩ := List.mem_filterMap.mp hw
  have hm : w ∈ big := by first | exact List.mem_of_getElem? hi | exact List.getElem?_mem hi
  exact ⟨hm, good_of_word h1⟩
theorem goodIn_app {big a b : List Cond} (ha : GoodIn big a) (hb : GoodIn big b) : GoodIn big (a ++ b) := fun w h => (List.mem_append.mp h).elim (ha w) (hb w)
theorem goodIn_ca {big a b : List Cond} {c : Cond} (ha : GoodIn big (c :: a)) (hb : GoodIn big b) : GoodIn big (c :: (a ++ b)) := fun w h => (List.mem_cons.mp h).elim (fun e => ha w (List.mem_cons.mpr (Or.inl e))) (fun h => (List.mem_append.mp h).elim (fun h => ha w (List.mem_cons.mpr (Or.inr h))) (hb w))
theorem goodIn_sub {big ws : List Cond} (hm : ∀ w ∈ ws, w ∈ big) (h : ws.all goodWord = true) : GoodIn big ws := fun w hw => ⟨hm w hw, good_of_word (List.all_eq_true.mp h w hw)⟩
/-! ===== END ===== -/

/-! ===== BEGIN exceptions that leave a method, and their catching by the caller (launches without stack traces) ===== -/
section VXA
/-! The laws vx_back, vx_callV, vx_callS, vx_callSW, vx_throw0, vx_throwS follow proofs of the library, with one case more: JvmDerived/Free/Laws.lean (Back.of_free), Shelf42/LK1.lean (callV, callS), Shelf/KitTraced.lean (throwNew0V, throwNewS). -/
/-- where a method has thrown q: the class by its name, the cell, what was written, the world -/
def vx_T (XC : String → State → State → Prop) (st : State) (q : Addr) (t : State) (mc ms : Nat) (free : Addr → Prop) : Prop :=
  ∃ (E : String) (ce : Cell) (L : List Loc), XC E st t ∧ t.heap[q]? = some ce ∧ ce.vm = .none ∧ st.vm.findClass E = some ce.cls ∧ st.WarmedH t.vm ∧ st.sameButNew ({ t with vm := st.vm } : State) L mc ms ∧ ∀ z ∈ L, free z.base
def vx_Q (Qc : Array Value → State → Outcome → State → Prop) (XC : String → State → State → Prop) (mc ms : Nat) (free : Addr → Prop) : Array Value → State → Outcome → State → Prop := fun a st o t =>
  (Qc a st o t ∧ ∃ L, FrameEnd st o t L mc ms ∧ ∀ q ∈ L, free q.base) ∨ ∃ q, o = .threw q ∧ vx_T XC st q t mc ms free
/-- a callee that returns or throws -/
def vx_Met (l : Launch) (y : MethodName) (ws : List Cond) (rm : Room) (Pc : Array Value → State → Prop) (Qc : Array Value → State → Outcome → State → Prop) (XC : String → State → State → Prop) (mc ms : Nat) (free : Addr → Prop) : Prop :=
  MetFree l y (headSpec ws rm) Pc (fun _ _ _ _ _ => True) (vx_Q Qc XC mc ms free)
def vx_Post (XC : String → State → State → Prop) (mc ms : Nat) (free : Addr → Prop) : Pt → Array Value → Addr → Pt → Prop := fun A a q B =>
  ∃ (g : JFrame) (mk : MethodId) (t : State) (L : List Loc) (E : String) (ce : Cell), B.U.heap = t.heap ∧ B.U.vm = t.vm ∧ XC E (A.U.calling g mk a) t ∧ t.heap[q]? = some ce ∧ ce.vm = .none ∧ A.U.vm.findClass E = some ce.cls ∧ B.locs = A.locs ++ L ∧ (∀ z ∈ L, free z.base) ∧ B.cells = A.cells + mc ∧ B.slots = A.slots + ms
def vx_Back (l : Launch) (R : Room) (p : Program) (e : Env) (below : List Frame) (s : State) (sargs : Array Value) (y : MethodName) (len W9 : Nat)
    (Pre : Pt → Array Value → Prop) (Post : Pt → Array Value → Option Value → Pt → Prop) (PostX : Pt → Array Value → Addr → Pt → Prop) : Prop :=
  ∀ (m : MethodId) (meth : Method) (c : Code) (A : Pt) (g : JFrame) (ig : Instr) (mk : MethodId) (a : Array Value),
    Stand p l e R s m sargs below meth c A.U A.locs A.cells A.slots → g.method = m → g.locals.size = c.maxLocals → decode c.code g.pc = .ok (ig, len) →
    2 * g.monitorRoom + (g.stack.map fun v => v.category).sum ≤ W9 → A.U.methodNamed? y = some mk → Pre A a →
    (∃ (v : Option Value) (B : Pt), Stand p l e R s m sargs below meth c B.U B.locs B.cells B.slots ∧ Post A a v B ∧
      Steps p.tables e below (doInvoke e (A.U.setTop g) [] mk a).1 (B.U.setTop { g with pc := g.pc + len, stack := v.toList ++ g.stack })) ∨
    (∃ (q : Addr) (B : Pt), Stand p l e R s m sargs below meth c B.U B.locs B.cells B.slots ∧ PostX A a q B ∧
      Steps p.tables e below (doInvoke e (A.U.setTop g) [] mk a).1 ((B.U.setTop g).pushFrame (.throwing q)))
section Payer
variable {l : Launch} {R : Room} {p : Program} {e : Env} {below : List Frame} {s : State} {sargs : Array Value} {y : MethodName} {len W9 : Nat}
theorem vx_back {ws : List Cond} {rm : Room} {Pc : Array Value → State → Prop} {Qc : Array Value → State → Outcome → State → Prop} {XC : String → State → State → Prop} {mc ms : Nat} {free : Addr → Prop} {bytes : ByteArray} {maxL : Nat} {ret : Option FieldType}
    (hM : vx_Met l y ws rm Pc Qc XC mc ms free) (hblind : FrameBlind Pc) (hrc : rm.cells = mc) (hrs : rm.slots = ms)
    (hframes : rm.frames + 1 ≤ R.frames) (hlocals : W9 + (maxL + 11) + rm.locals ≤ R.locals)
    (hws : ∀ w ∈ ws, ∀ a' U, s.WarmedH U.vm → w.before a' U = true) (hcode : Cond.code y bytes maxL ret ∈ ws) (hinit : ∀ a' U, s.WarmedH U.vm → (Cond.initialized y.cls).before a' U = true) :
    vx_Back l R p e below s sargs y len W9 (PreOf R mc ms Pc) (PostOf Qc mc ms free) (vx_Post XC mc ms free) := by
  intro m meth c A g ig mk a X hg hsize hdg hW hn hp
  have h1 : (headSpec ws rm).pre.before a A.U = true := atoms_intro fun w hw => hws w hw _ _ X.warmed
  have h2 : (Cond.code y bytes maxL ret).before a A.U = true := hws _ hcode _ _ X.warmed
  have h3 : (Cond.initialized y.cls).before a A.U = true := hinit _ _ X.warmed
  have h4 : A.cells + (headSpec ws rm).room.cells ≤ R.cells := by rw [show (headSpec ws rm).room.cells = mc from hrc]; exact hp.1
  have h5 : A.slots + (headSpec ws rm).room.slots ≤ R.slots := by rw [show (headSpec ws rm).room.slots = ms from hrs]; exact hp.2.1
  have hPc : Pc a (A.U.calling g mk a) := hblind _ _ _ _ hp.2.2
  obtain ⟨U, Ls, c0, s0⟩ := A
  dsimp only [Pt.U, Pt.locs, Pt.cells, Pt.slots] at h1 h2 h3 h4 h5 X hn hPc ⊢
  obtain ⟨methY, cY, hmY, hcY, -, hlY, -, -, -, -⟩ := Cond.code_spec hn h2
  obtain ⟨kY, hkY, -⟩ := className_of_methodNamed hn
  have hinitY : kY.init = .initialized := Cond.initialized_spec (findClass_of_methodNamed hn) hkY h3
  have h : At U g.method c below := by rw [hg]; exact X.here
  have hlocals9 : W9 + (maxL + 11) + (headSpec ws rm).room.locals ≤ R.locals := hlocals
  have happ : (headSpec ws rm).appliesLoose y e.platform (U.calling g mk a) = true :=
    Spec.appliesLoose_calling (g := g) h hdg hn hkY hinitY
      (X.room_calling (g := g) (R' := (headSpec ws rm).room) hsize hmY hcY hframes (by rw [hlY]; omega) h4 h5) h1
  obtain ⟨mid, hmid⟩ := h.above
  have hfr : (U.setTop g).frames = (.java g :: mid) ++ below := by rw [State.frames_setTop' g h.top, hmid]; rfl
  obtain ⟨o, s₂, hsteps, -, hend, hq⟩ := Steps.callFree hM p X.admits X.cas X.clock (acts := []) hfr happ hPc trivial
  have hq' : vx_Q Qc XC mc ms free a (U.calling g mk a) o s₂ := hq
  rw [State.frames_setTop' g h.top] at hend
  obtain ⟨g₀, hg0⟩ := Option.isSome_iff_exists.mp h.top
  obtain ⟨r, hr⟩ := State.topJava?_eq_some.mp hg0
  have hr' : (({ U with heap := s₂.heap, slotsUsed := s₂.slotsUsed } : State).setVm s₂.vm).frames = .java g₀ :: r := hr
  rcases hq' with ⟨hqc, L, hfe, hL⟩ | ⟨q, rfl, E, ce, L, hx, hce, hcv, hcl, hW₂, hsm, hL⟩
  · obtain ⟨⟨v, rfl⟩, hW₂, e2, q2, q3, q4, q5, q6⟩ := id hfe
    have e3 : s₂ = ({ (U.calling g mk a).setFrames s₂.frames with heap := s₂.heap, slotsUsed := s₂.slotsUsed } : State).setVm s₂.vm := by
      have : s₂ = ({ s₂ with vm := (U.calling g mk a).vm } : State).setVm s₂.vm := rfl
      rw [e2] at this
      exact this
    obtain ⟨c₂, i₂, len₂, hc₂, hd₂, hf₂⟩ := hend
    have hW' : U.WarmedH s₂.vm := hW₂
    have hcc : c₂ = c := by
      have h1 : s₂.code? g.method = U.code? g.method := by
        rw [State.code?_eq, State.code?_eq, hW'.alike.method?]
      exact Option.some.inj (hc₂.symm.trans (h1.trans h.code))
    subst hcc
    have hlen : len₂ = len := by rw [hdg] at hd₂; cases hd₂; rfl
    subst hlen
    have hs₂ : s₂ = (({ U with heap := s₂.heap, slotsUsed := s₂.slotsUsed } : State).setVm s₂.vm).setTop { g with pc := g.pc + len₂, stack := v.toList ++ g.stack } := by
      refine e3.trans ?_
      rw [hf₂, State.calling_eq h.top, State.setFrames_setFrames, State.setTop_of_frames _ hr', hr]
      rfl
    have hsame : U.sameButNew ({ U with heap := s₂.heap, slotsUsed := s₂.slotsUsed } : State) L mc ms := by
      refine ⟨?_, q2, q3, q4, q5, q6⟩
      obtain ⟨t, ht, -⟩ := State.frames_cons hr
      show ({ U with heap := s₂.heap, slotsUsed := s₂.slotsUsed } : State) = { U.setFrames U.frames with heap := s₂.heap, slotsUsed := s₂.slotsUsed }
      rw [State.setFrames_self ht]
    subst hg
    refine Or.inl ⟨v, ⟨(({ U with heap := s₂.heap, slotsUsed := s₂.slotsUsed } : State).setVm s₂.vm), Ls ++ L, c0 + mc, s0 + ms⟩,
      ⟨X.admits, X.cas, X.clock, X.frames, X.room, X.hears, X.method, X.code, (X.here.setHeapUsed s₂.heap s₂.slotsUsed).setVm hW'.alike, X.tail, State.WarmedH.trans X.warmed hW', X.limits, X.bytes, X.same.trans (hsame.setVm s.vm)⟩,
      ⟨g, mk, s₂, L, rfl, rfl, hqc, rfl, hL, rfl, rfl⟩, ?_⟩
    show Steps p.tables e below _ ((({ U with heap := s₂.heap, slotsUsed := s₂.slotsUsed } : State).setVm s₂.vm).setTop { g with pc := g.pc + len₂, stack := v.toList ++ g.stack })
    rw [← hs₂]
    exact hsteps
  · obtain ⟨e2, q2, q3, q4, q5, q6⟩ := id hsm
    have e3 : s₂ = ({ (U.calling g mk a).setFrames s₂.frames with heap := s₂.heap, slotsUsed := s₂.slotsUsed } : State).setVm s₂.vm := by
      have : s₂ = ({ s₂ with vm := (U.calling g mk a).vm } : State).setVm s₂.vm := rfl
      rw [e2] at this
      exact this
    have hf₂ : s₂.frames = .throwing q :: .java g :: U.frames.tail := hend
    have hW' : U.WarmedH s₂.vm := hW₂
    have hs₂ : s₂ = ((({ U with heap := s₂.heap, slotsUsed := s₂.slotsUsed } : State).setVm s₂.vm).setTop g).pushFrame (.throwing q) := by
      refine e3.trans ?_
      rw [hf₂, State.calling_eq h.top, State.setFrames_setFrames, State.pushFrame, State.frames_setTop _ hr', State.setTop_of_frames _ hr', State.setFrames_setFrames, hr]
      rfl
    have hsame : U.sameButNew ({ U with heap := s₂.heap, slotsUsed := s₂.slotsUsed } : State) L mc ms := by
      refine ⟨?_, q2, q3, q4, q5, q6⟩
      obtain ⟨t, ht, -⟩ := State.frames_cons hr
      show ({ U with heap := s₂.heap, slotsUsed := s₂.slotsUsed } : State) = { U.setFrames U.frames with heap := s₂.heap, slotsUsed := s₂.slotsUsed }
      rw [State.setFrames_self ht]
    subst hg
    refine Or.inr ⟨q, ⟨(({ U with heap := s₂.heap, slotsUsed := s₂.slotsUsed } : State).setVm s₂.vm), Ls ++ L, c0 + mc, s0 + ms⟩,
      ⟨X.admits, X.cas, X.clock, X.frames, X.room, X.hears, X.method, X.code, (X.here.setHeapUsed s₂.heap s₂.slotsUsed).setVm hW'.alike, X.tail, State.WarmedH.trans X.warmed hW', X.limits, X.bytes, X.same.trans (hsame.setVm s.vm)⟩,
      ⟨g, mk, s₂, L, E, ce, rfl, rfl, hx, hce, hcv, hcl, rfl, hL, rfl, rfl⟩, ?_⟩
    show Steps p.tables e below _ (((({ U with heap := s₂.heap, slotsUsed := s₂.slotsUsed } : State).setVm s₂.vm).setTop g).pushFrame (.throwing q))
    rw [← hs₂]
    exact hsteps
end Payer
section Calls
variable {p : Program} {l : Launch} {e : Env} {R : Room} {s : State} {m : MethodId} {args : Array Value} {below : List Frame} {meth : Method} {c : Code} {T : State} {locs : List Loc} {cells slots : Nat}
theorem vx_callV (X : Stand p l e R s m args below meth c T locs cells slots) (hexec : p.tables.exec = Jvm.exec) {own C : String} {index : Nat} {y : MethodName} {bytes : ByteArray} {maxL : Nat} {ret : Option FieldType}
    (hown : s.vm.findClass own = some m.cls) (hlink : (Cond.methodLink own index y).before args s = true) (hinst : (Cond.instanceMethod y).before args s = true) (hsel : (Cond.selects C y y).before args s = true)
    (hcode : (Cond.code y bytes maxL ret).before args s = true) (hy : y.cls ≠ "java/lang/invoke/MethodHandle" ∧ y.cls ≠ "java/lang/invoke/VarHandle")
    {W9 : Nat} {Pre : Pt → Array Value → Prop} {Post : Pt → Array Value → Option Value → Pt → Prop} {PostX : Pt → Array Value → Addr → Pt → Prop} (hK : vx_Back l R p e below s args y 3 W9 Pre Post PostX)
    {b : Addr} {cellB : Cell} (hcell : T.heap[b]? = some cellB) (hobj : cellB.vm.isStatics = false) (hcls : s.vm.findClass C = some cellB.cls)
    {g : JFrame} (hg : g.method = m) (hsize : g.locals.size = c.maxLocals) {argsL rest : List Value} (hlen : ∀ sig, parseMethodDescriptor y.desc = some sig → argsL.length = sig.parameters.length)
    (hstack : g.stack = argsL.reverse ++ .ref b :: rest) (hW : 2 * g.monitorRoom + (rest.map fun v => v.category).sum ≤ W9) (hdg : decode c.code g.pc = .ok (.invokevirtual index, 3))
    (hpre : ∀ vm₁, s.WarmedH vm₁ → Pre ⟨T.setVm vm₁, locs, cells, slots⟩ (Value.ref b :: argsL).toArray) :
    (∃ (v : Option Value) (vm₁ : Vm) (B : Pt), s.WarmedH vm₁ ∧ Stand p l e R s m args below meth c B.U B.locs B.cells B.slots ∧ Post ⟨T.setVm vm₁, locs, cells, slots⟩ (Value.ref b :: argsL).toArray v B ∧
      ∀ target, Steps p.tables e below (B.U.setTop { g with pc := g.pc + 3, stack := v.toList ++ rest }) target → Steps p.tables e below (T.setTop g) target) ∨
    (∃ (q : Addr) (vm₁ : Vm) (B : Pt), s.WarmedH vm₁ ∧ Stand p l e R s m args below meth c B.U B.locs B.cells B.slots ∧ PostX ⟨T.setVm vm₁, locs, cells, slots⟩ (Value.ref b :: argsL).toArray q B ∧
      Steps p.tables e below (T.setTop g) ((B.U.setTop { g with stack := rest }).pushFrame (.throwing q))) := by
  obtain ⟨mk, methM, hnamed, hmethM, hstM, habM⟩ := Cond.instanceMethod_spec hinst
  obtain ⟨methM', cM, hmethM', -, -, -, -, -, -, hsigM⟩ := Cond.code_spec hnamed hcode
  cases hmethM.symm.trans hmethM'
  obtain ⟨c2, r2, m2, q1, q2, q3, q4, kP, hkP, hkPi⟩ := Cond.selects_spec hsel
  cases hcls.symm.trans q1
  cases (State.methodFound?_of_named hnamed hy).symm.trans q2
  cases hnamed.symm.trans q3
  have hselP : selectMethod e.platform s.vm cellB.cls mk = .method mk := by rw [Launch.admits_selectMethod X.admits]; exact q4
  obtain ⟨vm₁, X₁, hstep₁⟩ := X.invokevirtual hexec hown hlink hnamed hmethM hstM hkP hkPi hy (a := b) (cell := cellB) hcell
    (fun z h => by rw [h] at hobj; cases hobj) hselP hmethM habM hkP hkPi (g := g) hg (argsL := argsL) (rest := rest) (hlen _ hsigM) hstack hdg
  rcases hK m meth c ⟨T.setVm vm₁, locs, cells, slots⟩ { g with stack := rest } (.invokevirtual index) mk (Value.ref b :: argsL).toArray X₁ hg hsize hdg hW (X₁.named hnamed) (hpre vm₁ X₁.warmed) with ⟨v, B, X', hpost, hsteps⟩ | ⟨q, B, X', hpost, hsteps⟩
  · exact Or.inl ⟨v, vm₁, B, X₁.warmed, X', hpost, fun target h => hstep₁ _ fun acts => by rw [doInvoke_state]; exact hsteps.trans h⟩
  · exact Or.inr ⟨q, vm₁, B, X₁.warmed, X', hpost, hstep₁ _ fun acts => by rw [doInvoke_state]; exact hsteps⟩
theorem vx_callS (X : Stand p l e R s m args below meth c T locs cells slots) (hexec : p.tables.exec = Jvm.exec) {own : String} {index : Nat} {y : MethodName} {bytes : ByteArray} {maxL : Nat} {ret : Option FieldType}
    (hown : s.vm.findClass own = some m.cls) (hlink : (Cond.methodLink own index y).before args s = true) (hstat : (Cond.static y).before args s = true) (hinit : (Cond.initialized y.cls).before args s = true)
    (hcode : (Cond.code y bytes maxL ret).before args s = true) (hy : y.cls ≠ "java/lang/invoke/MethodHandle" ∧ y.cls ≠ "java/lang/invoke/VarHandle")
    {W9 : Nat} {Pre : Pt → Array Value → Prop} {Post : Pt → Array Value → Option Value → Pt → Prop} {PostX : Pt → Array Value → Addr → Pt → Prop} (hK : vx_Back l R p e below s args y 3 W9 Pre Post PostX)
    {g : JFrame} (hg : g.method = m) (hsize : g.locals.size = c.maxLocals) {argsL rest : List Value} (hlen : ∀ sig, parseMethodDescriptor y.desc = some sig → argsL.length = sig.parameters.length)
    (hstack : g.stack = argsL.reverse ++ rest) (hW : 2 * g.monitorRoom + (rest.map fun v => v.category).sum ≤ W9) (hdg : decode c.code g.pc = .ok (.invokestatic index, 3))
    (hpre : ∀ vm₁, s.WarmedH vm₁ → Pre ⟨T.setVm vm₁, locs, cells, slots⟩ argsL.toArray) :
    (∃ (v : Option Value) (vm₁ : Vm) (B : Pt), s.WarmedH vm₁ ∧ Stand p l e R s m args below meth c B.U B.locs B.cells B.slots ∧ Post ⟨T.setVm vm₁, locs, cells, slots⟩ argsL.toArray v B ∧
      ∀ target, Steps p.tables e below (B.U.setTop { g with pc := g.pc + 3, stack := v.toList ++ rest }) target → Steps p.tables e below (T.setTop g) target) ∨
    (∃ (q : Addr) (vm₁ : Vm) (B : Pt), s.WarmedH vm₁ ∧ Stand p l e R s m args below meth c B.U B.locs B.cells B.slots ∧ PostX ⟨T.setVm vm₁, locs, cells, slots⟩ argsL.toArray q B ∧
      Steps p.tables e below (T.setTop g) ((B.U.setTop { g with stack := rest }).pushFrame (.throwing q))) := by
  obtain ⟨mk, hnamed⟩ := Cond.code_named hcode
  obtain ⟨methM, cM, hmethM, -, -, -, -, -, -, hsigM⟩ := Cond.code_spec hnamed hcode
  have hstatic : methM.isStatic = true := Cond.static_spec hnamed hmethM hstat
  obtain ⟨kP, hkP, -⟩ := className_of_methodNamed hnamed
  have hinitP : kP.init = .initialized := Cond.initialized_spec (findClass_of_methodNamed hnamed) hkP hinit
  obtain ⟨vm₁, X₁, hstep₁⟩ := X.invokestatic hexec hown hlink hnamed hmethM hstatic hkP hinitP hy (g := g) hg (argsL := argsL) (rest := rest) (hlen _ hsigM) hstack hdg
  rcases hK m meth c ⟨T.setVm vm₁, locs, cells, slots⟩ { g with stack := rest } (.invokestatic index) mk argsL.toArray X₁ hg hsize hdg hW (X₁.named hnamed) (hpre vm₁ X₁.warmed) with ⟨v, B, X', hpost, hsteps⟩ | ⟨q, B, X', hpost, hsteps⟩
  · exact Or.inl ⟨v, vm₁, B, X₁.warmed, X', hpost, fun target h => hstep₁ _ fun acts => by rw [doInvoke_state]; exact hsteps.trans h⟩
  · exact Or.inr ⟨q, vm₁, B, X₁.warmed, X', hpost, hstep₁ _ fun acts => by rw [doInvoke_state]; exact hsteps⟩
end Calls
theorem vx_cls {s : State} {T : State} {vm₁ : Vm} {E : String} {k : ClassId} (hW : s.WarmedH vm₁) (h : (T.setVm vm₁).vm.findClass E = some k) : s.vm.findClass E = some k := by
  have h1 : vm₁.findClass E = some k := h
  rw [hW.alike.findClass] at h1
  exact h1
/-- the method's frame g, with q thrown over it -/
def vx_W (p : Program) (l : Launch) (e : Env) (R : Room) (s : State) (m : MethodId) (args : Array Value) (below : List Frame) (meth : Method) (c : Code) (H : Heap) (locs : List Loc) (cells slots : Nat) (Q : State → Prop) (g : JFrame) (q : Addr) : Prop :=
  ∀ T : State, T.heap = H → Stand p l e R s m args below meth c T locs cells slots → ∃ t, Steps p.tables e below ((T.setTop g).pushFrame (.throwing q)) t ∧ Q t
def vx_Run (p : Program) (l : Launch) (e : Env) (R : Room) (s : State) (m : MethodId) (args : Array Value) (below : List Frame) (meth : Method) (c : Code) (H : Heap) (locs : List Loc) (cells slots mc ms : Nat) (g : JFrame) (rest : List Value) (Qa : State → Outcome → State → Prop) (XC : String → State → State → Prop) (free : Addr → Prop) : Prop :=
  ∀ T : State, T.heap = H → Stand p l e R s m args below meth c T locs cells slots →
    (∃ (v : Option Value) (st₀ t T' : State) (L : List Loc), st₀.heap = H ∧ Stand p l e R s m args below meth c T' (locs ++ L) (cells + mc) (slots + ms) ∧ (∀ q ∈ L, free q.base) ∧ T'.heap = t.heap ∧ T'.vm = t.vm ∧ Qa st₀ (.returned v) t ∧
      Goes p e below T g T' { g with pc := g.pc + 3, stack := v.toList ++ rest }) ∨
    (∃ (q : Addr) (st₀ t T' : State) (L : List Loc) (E : String) (ce : Cell), st₀.heap = H ∧ Stand p l e R s m args below meth c T' (locs ++ L) (cells + mc) (slots + ms) ∧ (∀ z ∈ L, free z.base) ∧ T'.heap = t.heap ∧ T'.vm = t.vm ∧ XC E st₀ t ∧ t.heap[q]? = some ce ∧ ce.vm = .none ∧ s.vm.findClass E = some ce.cls ∧
      Steps p.tables e below (T.setTop g) ((T'.setTop { g with stack := rest }).pushFrame (.throwing q)))
def vx_X {S : Type} (px : S → Prop) (B : String → S → State → Prop) (A : Nat → Prop) : String → State → State → Prop := fun E st t => ∃ u : S, px u ∧ B E u t ∧ va_F A st t
section Runs
variable {p : Program} {l : Launch} {e : Env} {R : Room} {s : State} {m : MethodId} {args : Array Value} {below : List Frame} {meth : Method} {c : Code} {H : Heap} {locs : List Loc} {cells slots : Nat}
variable {y : MethodName} {bytes cc : ByteArray} {maxL nL mc ms n index : Nat} {ret : Option FieldType} {ws : List Cond} {rm : Room} {Pc : Array Value → State → Prop} {Qc : Array Value → State → Outcome → State → Prop} {XC : String → State → State → Prop} {free : Addr → Prop} {Ts : List Cond} {own C : String} {b : Addr} {As rest : List Value} {g : JFrame}
theorem vx_callBack (cb : CallB R s args own index y bytes maxL ret ws rm mc ms n) (hM : vx_Met l y ws rm Pc Qc XC mc ms free) (hbl : FrameBlind Pc) : vx_Back l R p e below s args y 3 8 (PreOf R mc ms Pc) (PostOf Qc mc ms free) (vx_Post XC mc ms free) := by
  obtain ⟨hrc, hrs, hfr, hlo, hws, hcw, -, hini, -⟩ := cb
  exact vx_back (bytes := bytes) (maxL := maxL) (ret := ret) hM hbl hrc hrs hfr hlo hws hcw (fun a' U hW => word_at hW (Or.inl (by first | rfl | simp [Cond.onTables, Cond.keeps, Cond.steady])) hini)
theorem vx_runV (S : CallFix p m c cc nL s args Ts own) (hM : vx_Met l y ws rm Pc Qc XC mc ms free) (cw : CallW R s args own C index y bytes maxL ret ws rm mc ms n) (hp : PreV s H C b Pc As)
    (hg : g.method = m) (hn : As.length = n) (hsize : g.locals.size = nL) (hstack : g.stack = As.reverse ++ .ref b :: rest) (hW : 2 * g.monitorRoom + (rest.map fun v => v.category).sum ≤ 8) (hdg : decode cc g.pc = .ok (.invokevirtual index, 3)) (hf : cells + mc ≤ R.cells ∧ slots + ms ≤ R.slots) :
    vx_Run p l e R s m args below meth c H locs cells slots mc ms g rest (Qc (Value.ref b :: As).toArray) XC free := by
  have hK : vx_Back l R p e below s args y 3 8 (PreOf R mc ms Pc) (PostOf Qc mc ms free) (vx_Post XC mc ms free) := vx_callBack cw.1 hM hp.1
  obtain ⟨⟨-, -, -, -, -, -, hcode, -, hy, hlen, hl⟩, hin, hse⟩ := cw
  obtain ⟨hx, hb, hml, ho, -⟩ := S
  obtain ⟨-, ⟨cellB, hcB, hoB, hclB⟩, hPc⟩ := hp
  intro T hT X
  rcases vx_callV X hx (C := C) (bytes := bytes) (maxL := maxL) (ret := ret) ho hl hin hse hcode hy hK (by rw [hT]; exact hcB) hoB hclB hg (hsize.trans hml.symm) (argsL := As) (rest := rest) (fun sig h => hn.trans (hlen sig h)) hstack hW (by rw [hb]; exact hdg)
    (fun vm₁ hW₁ => ⟨hf.1, hf.2, hPc (T.setVm vm₁) hT hW₁⟩) with ⟨v, vm₁, ⟨U', l2, c2, s2⟩, hW₁, X', ⟨g', mk, t, L, e1, e2, hq, h1, hL, h2, h3⟩, st⟩ | ⟨q, vm₁, ⟨U', l2, c2, s2⟩, hW₁, X', ⟨g', mk, t, L, E, ce, e1, e2, hq, hce, hcv, hcl, h1, hL, h2, h3⟩, st⟩
  · dsimp only [Pt.U, Pt.locs, Pt.cells, Pt.slots] at X' e1 e2 h1 h2 h3 st
    subst h1; subst h2; subst h3
    exact Or.inl ⟨v, (T.setVm vm₁).calling g' mk (Value.ref b :: As).toArray, t, U', L, hT, X', hL, e1, e2, hq, st⟩
  · dsimp only [Pt.U, Pt.locs, Pt.cells, Pt.slots] at X' e1 e2 h1 h2 h3 st hcl
    subst h1; subst h2; subst h3
    exact Or.inr ⟨q, (T.setVm vm₁).calling g' mk (Value.ref b :: As).toArray, t, U', L, E, ce, hT, X', hL, e1, e2, hq, hce, hcv, vx_cls hW₁ hcl, st⟩
theorem vx_runS (S : CallFix p m c cc nL s args Ts own) (hM : vx_Met l y ws rm Pc Qc XC mc ms free) (cw : CallB R s args own index y bytes maxL ret ws rm mc ms n ∧ (Cond.static y).before args s = true) (hp : PreS s H Pc As)
    (hg : g.method = m) (hn : As.length = n) (hsize : g.locals.size = nL) (hstack : g.stack = As.reverse ++ rest) (hW : 2 * g.monitorRoom + (rest.map fun v => v.category).sum ≤ 8) (hdg : decode cc g.pc = .ok (.invokestatic index, 3)) (hf : cells + mc ≤ R.cells ∧ slots + ms ≤ R.slots) :
    vx_Run p l e R s m args below meth c H locs cells slots mc ms g rest (Qc As.toArray) XC free := by
  have hK : vx_Back l R p e below s args y 3 8 (PreOf R mc ms Pc) (PostOf Qc mc ms free) (vx_Post XC mc ms free) := vx_callBack cw.1 hM hp.1
  obtain ⟨⟨-, -, -, -, -, -, hcode, hini, hy, hlen, hl⟩, hstt⟩ := cw
  obtain ⟨hx, hb, hml, ho, -⟩ := S
  intro T hT X
  rcases vx_callS X hx (bytes := bytes) (maxL := maxL) (ret := ret) ho hl hstt hini hcode hy hK hg (hsize.trans hml.symm) (argsL := As) (rest := rest) (fun sig h => hn.trans (hlen sig h)) hstack hW (by rw [hb]; exact hdg)
    (fun vm₁ hW₁ => ⟨hf.1, hf.2, hp.2 (T.setVm vm₁) hT hW₁⟩) with ⟨v, vm₁, ⟨U', l2, c2, s2⟩, hW₁, X', ⟨g', mk, t, L, e1, e2, hq, h1, hL, h2, h3⟩, st⟩ | ⟨q, vm₁, ⟨U', l2, c2, s2⟩, hW₁, X', ⟨g', mk, t, L, E, ce, e1, e2, hq, hce, hcv, hcl, h1, hL, h2, h3⟩, st⟩
  · dsimp only [Pt.U, Pt.locs, Pt.cells, Pt.slots] at X' e1 e2 h1 h2 h3 st
    subst h1; subst h2; subst h3
    exact Or.inl ⟨v, (T.setVm vm₁).calling g' mk As.toArray, t, U', L, hT, X', hL, e1, e2, hq, st⟩
  · dsimp only [Pt.U, Pt.locs, Pt.cells, Pt.slots] at X' e1 e2 h1 h2 h3 st hcl
    subst h1; subst h2; subst h3
    exact Or.inr ⟨q, (T.setVm vm₁).calling g' mk As.toArray, t, U', L, E, ce, hT, X', hL, e1, e2, hq, hce, hcv, vx_cls hW₁ hcl, st⟩
end Runs
section Rows
variable {p : Program} {l : Launch} {e : Env} {R : Room} {s : State} {m : MethodId} {args : Array Value} {below : List Frame} {meth : Method} {c : Code} {H : Heap} {locs : List Loc} {cells slots : Nat} {Q : State → Prop}
variable {mc ms : Nat} {free : Addr → Prop} {A0 A1 : Nat → Prop} {H0 : Heap} {a : Array Value} {pc : Nat} {ls : Array Slot} {st0 rest : List Value}
theorem vx_keep {st₀ t T' : State} {L : List Loc} (h0 : st₀.heap = H) (e1 : T'.heap = t.heap) (hS : va_S A0 H0 H locs) (hA : ∀ q, q < H.size → A1 q → A0 q) (hf : ∀ q, free q → A0 q) (hL : ∀ q ∈ L, free q.base) (hF : va_F A1 st₀ t) :
    H.size ≤ T'.heap.size ∧ (∀ q : Nat, q < H.size → ¬ A1 q → T'.heap[q]? = H[q]?) ∧ va_S A0 H0 T'.heap (locs ++ L) := by
  obtain ⟨hz, hk⟩ := hF
  rw [h0] at hz hk
  exact ⟨by rw [e1]; exact hz, fun q h1 h2 => by rw [e1]; exact hk q h1 h2,
    ⟨Nat.le_trans hS.1 (by rw [e1]; exact hz), fun q h1 h2 => by rw [e1, hk q (Nat.lt_of_lt_of_le h1 hS.1) (fun z => h2 (hA q (Nat.lt_of_lt_of_le h1 hS.1) z))]; exact hS.2.1 q h1 h2, fun q hq => by
      rcases List.mem_append.mp hq with h | h
      · exact hS.2.2 q h
      · exact hf _ (hL q h)⟩⟩
theorem vx_calli {S SX : Type} {post : Int32 → S → Prop} {px : SX → Prop} {B : S → State → Prop} {BX : String → SX → State → Prop} {AX : Nat → Prop} (hr : vx_Run p l e R s m args below meth c H locs cells slots mc ms (F0 m pc ls st0) rest (va_Qi post B A1 a) (vx_X px BX AX) free) (hS : va_S A0 H0 H locs) (hA : ∀ q, q < H.size → A1 q → A0 q) (hf : ∀ q, free q → A0 q) (hAX : ∀ q, q < H.size → AX q → A0 q)
    (kx : ∀ (E : String) (ce : Cell) (q9 : Addr) (u : SX) (t : State) (H1 : Heap) (locs1 : List Loc), t.heap = H1 → s.vm.Alike t.vm → px u → BX E u t → H.size ≤ H1.size → (∀ q : Nat, q < H.size → ¬ AX q → H1[q]? = H[q]?) → va_S A0 H0 H1 locs1 → H1[q9]? = some ce → ce.vm = .none → s.vm.findClass E = some ce.cls → vx_W p l e R s m args below meth c H1 locs1 (cells + mc) (slots + ms) Q (F0 m pc ls rest) q9)
    (kk : ∀ (r : Int32) (u : S) (t : State) (H1 : Heap) (locs1 : List Loc), t.heap = H1 → s.vm.Alike t.vm → post r u → B u t → H.size ≤ H1.size → (∀ q : Nat, q < H.size → ¬ A1 q → H1[q]? = H[q]?) → va_S A0 H0 H1 locs1 → W p l e R s m args below meth c H1 locs1 (cells + mc) (slots + ms) Q (F0 m (pc + 3) ls (.int r :: rest))) : W p l e R s m args below meth c H locs cells slots Q (F0 m pc ls st0) := by
  intro T hT X
  rcases hr T hT X with ⟨v, st₀, t, T', L, h0, X', hL, e1, e2, ⟨⟨r, u, hv, hp, hb⟩, hF⟩, st⟩ | ⟨q, st₀, t, T', L, E, ce, h0, X', hL, e1, e2, ⟨u, hp, hb, hF⟩, hce, hcv, hcl, st⟩
  · cases hv
    obtain ⟨k1, k2, k3⟩ := vx_keep h0 e1 hS hA hf hL hF
    obtain ⟨t2, a1, b1⟩ := kk r u t T'.heap (locs ++ L) e1.symm (by rw [← e2]; exact X'.warmed.alike) hp hb k1 k2 k3 T' rfl X'
    exact ⟨t2, st t2 a1, b1⟩
  · obtain ⟨k1, k2, k3⟩ := vx_keep h0 e1 hS hAX hf hL hF
    obtain ⟨t2, a1, b1⟩ := kx E ce q u t T'.heap (locs ++ L) e1.symm (by rw [← e2]; exact X'.warmed.alike) hp hb k1 k2 k3 (by rw [e1]; exact hce) hcv hcl T' rfl X'
    exact ⟨t2, st.trans a1, b1⟩
theorem vx_calll {S SX : Type} {post : Int64 → S → Prop} {px : SX → Prop} {B : S → State → Prop} {BX : String → SX → State → Prop} {AX : Nat → Prop} (hr : vx_Run p l e R s m args below meth c H locs cells slots mc ms (F0 m pc ls st0) rest (va_Ql post B A1 a) (vx_X px BX AX) free) (hS : va_S A0 H0 H locs) (hA : ∀ q, q < H.size → A1 q → A0 q) (hf : ∀ q, free q → A0 q) (hAX : ∀ q, q < H.size → AX q → A0 q)
    (kx : ∀ (E : String) (ce : Cell) (q9 : Addr) (u : SX) (t : State) (H1 : Heap) (locs1 : List Loc), t.heap = H1 → s.vm.Alike t.vm → px u → BX E u t → H.size ≤ H1.size → (∀ q : Nat, q < H.size → ¬ AX q → H1[q]? = H[q]?) → va_S A0 H0 H1 locs1 → H1[q9]? = some ce → ce.vm = .none → s.vm.findClass E = some ce.cls → vx_W p l e R s m args below meth c H1 locs1 (cells + mc) (slots + ms) Q (F0 m pc ls rest) q9)
    (kk : ∀ (r : Int64) (u : S) (t : State) (H1 : Heap) (locs1 : List Loc), t.heap = H1 → s.vm.Alike t.vm → post r u → B u t → H.size ≤ H1.size → (∀ q : Nat, q < H.size → ¬ A1 q → H1[q]? = H[q]?) → va_S A0 H0 H1 locs1 → W p l e R s m args below meth c H1 locs1 (cells + mc) (slots + ms) Q (F0 m (pc + 3) ls (.long r :: rest))) : W p l e R s m args below meth c H locs cells slots Q (F0 m pc ls st0) := by
  intro T hT X
  rcases hr T hT X with ⟨v, st₀, t, T', L, h0, X', hL, e1, e2, ⟨⟨r, u, hv, hp, hb⟩, hF⟩, st⟩ | ⟨q, st₀, t, T', L, E, ce, h0, X', hL, e1, e2, ⟨u, hp, hb, hF⟩, hce, hcv, hcl, st⟩
  · cases hv
    obtain ⟨k1, k2, k3⟩ := vx_keep h0 e1 hS hA hf hL hF
    obtain ⟨t2, a1, b1⟩ := kk r u t T'.heap (locs ++ L) e1.symm (by rw [← e2]; exact X'.warmed.alike) hp hb k1 k2 k3 T' rfl X'
    exact ⟨t2, st t2 a1, b1⟩
  · obtain ⟨k1, k2, k3⟩ := vx_keep h0 e1 hS hAX hf hL hF
    obtain ⟨t2, a1, b1⟩ := kx E ce q u t T'.heap (locs ++ L) e1.symm (by rw [← e2]; exact X'.warmed.alike) hp hb k1 k2 k3 (by rw [e1]; exact hce) hcv hcl T' rfl X'
    exact ⟨t2, st.trans a1, b1⟩
theorem vx_callf {S SX : Type} {post : UInt32 → S → Prop} {px : SX → Prop} {B : S → State → Prop} {BX : String → SX → State → Prop} {AX : Nat → Prop} (hr : vx_Run p l e R s m args below meth c H locs cells slots mc ms (F0 m pc ls st0) rest (va_Qf post B A1 a) (vx_X px BX AX) free) (hS : va_S A0 H0 H locs) (hA : ∀ q, q < H.size → A1 q → A0 q) (hf : ∀ q, free q → A0 q) (hAX : ∀ q, q < H.size → AX q → A0 q)
    (kx : ∀ (E : String) (ce : Cell) (q9 : Addr) (u : SX) (t : State) (H1 : Heap) (locs1 : List Loc), t.heap = H1 → s.vm.Alike t.vm → px u → BX E u t → H.size ≤ H1.size → (∀ q : Nat, q < H.size → ¬ AX q → H1[q]? = H[q]?) → va_S A0 H0 H1 locs1 → H1[q9]? = some ce → ce.vm = .none → s.vm.findClass E = some ce.cls → vx_W p l e R s m args below meth c H1 locs1 (cells + mc) (slots + ms) Q (F0 m pc ls rest) q9)
    (kk : ∀ (r : UInt32) (u : S) (t : State) (H1 : Heap) (locs1 : List Loc), t.heap = H1 → s.vm.Alike t.vm → post r u → B u t → H.size ≤ H1.size → (∀ q : Nat, q < H.size → ¬ A1 q → H1[q]? = H[q]?) → va_S A0 H0 H1 locs1 → W p l e R s m args below meth c H1 locs1 (cells + mc) (slots + ms) Q (F0 m (pc + 3) ls (.float r :: rest))) : W p l e R s m args below meth c H locs cells slots Q (F0 m pc ls st0) := by
  intro T hT X
  rcases hr T hT X with ⟨v, st₀, t, T', L, h0, X', hL, e1, e2, ⟨⟨r, u, hv, hp, hb⟩, hF⟩, st⟩ | ⟨q, st₀, t, T', L, E, ce, h0, X', hL, e1, e2, ⟨u, hp, hb, hF⟩, hce, hcv, hcl, st⟩
  · cases hv
    obtain ⟨k1, k2, k3⟩ := vx_keep h0 e1 hS hA hf hL hF
    obtain ⟨t2, a1, b1⟩ := kk r u t T'.heap (locs ++ L) e1.symm (by rw [← e2]; exact X'.warmed.alike) hp hb k1 k2 k3 T' rfl X'
    exact ⟨t2, st t2 a1, b1⟩
  · obtain ⟨k1, k2, k3⟩ := vx_keep h0 e1 hS hAX hf hL hF
    obtain ⟨t2, a1, b1⟩ := kx E ce q u t T'.heap (locs ++ L) e1.symm (by rw [← e2]; exact X'.warmed.alike) hp hb k1 k2 k3 (by rw [e1]; exact hce) hcv hcl T' rfl X'
    exact ⟨t2, st.trans a1, b1⟩
theorem vx_calld {S SX : Type} {post : UInt64 → S → Prop} {px : SX → Prop} {B : S → State → Prop} {BX : String → SX → State → Prop} {AX : Nat → Prop} (hr : vx_Run p l e R s m args below meth c H locs cells slots mc ms (F0 m pc ls st0) rest (va_Qd post B A1 a) (vx_X px BX AX) free) (hS : va_S A0 H0 H locs) (hA : ∀ q, q < H.size → A1 q → A0 q) (hf : ∀ q, free q → A0 q) (hAX : ∀ q, q < H.size → AX q → A0 q)
    (kx : ∀ (E : String) (ce : Cell) (q9 : Addr) (u : SX) (t : State) (H1 : Heap) (locs1 : List Loc), t.heap = H1 → s.vm.Alike t.vm → px u → BX E u t → H.size ≤ H1.size → (∀ q : Nat, q < H.size → ¬ AX q → H1[q]? = H[q]?) → va_S A0 H0 H1 locs1 → H1[q9]? = some ce → ce.vm = .none → s.vm.findClass E = some ce.cls → vx_W p l e R s m args below meth c H1 locs1 (cells + mc) (slots + ms) Q (F0 m pc ls rest) q9)
    (kk : ∀ (r : UInt64) (u : S) (t : State) (H1 : Heap) (locs1 : List Loc), t.heap = H1 → s.vm.Alike t.vm → post r u → B u t → H.size ≤ H1.size → (∀ q : Nat, q < H.size → ¬ A1 q → H1[q]? = H[q]?) → va_S A0 H0 H1 locs1 → W p l e R s m args below meth c H1 locs1 (cells + mc) (slots + ms) Q (F0 m (pc + 3) ls (.double r :: rest))) : W p l e R s m args below meth c H locs cells slots Q (F0 m pc ls st0) := by
  intro T hT X
  rcases hr T hT X with ⟨v, st₀, t, T', L, h0, X', hL, e1, e2, ⟨⟨r, u, hv, hp, hb⟩, hF⟩, st⟩ | ⟨q, st₀, t, T', L, E, ce, h0, X', hL, e1, e2, ⟨u, hp, hb, hF⟩, hce, hcv, hcl, st⟩
  · cases hv
    obtain ⟨k1, k2, k3⟩ := vx_keep h0 e1 hS hA hf hL hF
    obtain ⟨t2, a1, b1⟩ := kk r u t T'.heap (locs ++ L) e1.symm (by rw [← e2]; exact X'.warmed.alike) hp hb k1 k2 k3 T' rfl X'
    exact ⟨t2, st t2 a1, b1⟩
  · obtain ⟨k1, k2, k3⟩ := vx_keep h0 e1 hS hAX hf hL hF
    obtain ⟨t2, a1, b1⟩ := kx E ce q u t T'.heap (locs ++ L) e1.symm (by rw [← e2]; exact X'.warmed.alike) hp hb k1 k2 k3 (by rw [e1]; exact hce) hcv hcl T' rfl X'
    exact ⟨t2, st.trans a1, b1⟩
theorem vx_callv {S SX : Type} {post : S → Prop} {px : SX → Prop} {B : S → State → Prop} {BX : String → SX → State → Prop} {AX : Nat → Prop} (hr : vx_Run p l e R s m args below meth c H locs cells slots mc ms (F0 m pc ls st0) rest (va_Qv post B A1 a) (vx_X px BX AX) free) (hS : va_S A0 H0 H locs) (hA : ∀ q, q < H.size → A1 q → A0 q) (hf : ∀ q, free q → A0 q) (hAX : ∀ q, q < H.size → AX q → A0 q)
    (kx : ∀ (E : String) (ce : Cell) (q9 : Addr) (u : SX) (t : State) (H1 : Heap) (locs1 : List Loc), t.heap = H1 → s.vm.Alike t.vm → px u → BX E u t → H.size ≤ H1.size → (∀ q : Nat, q < H.size → ¬ AX q → H1[q]? = H[q]?) → va_S A0 H0 H1 locs1 → H1[q9]? = some ce → ce.vm = .none → s.vm.findClass E = some ce.cls → vx_W p l e R s m args below meth c H1 locs1 (cells + mc) (slots + ms) Q (F0 m pc ls rest) q9)
    (kk : ∀ (u : S) (t : State) (H1 : Heap) (locs1 : List Loc), t.heap = H1 → s.vm.Alike t.vm → post u → B u t → H.size ≤ H1.size → (∀ q : Nat, q < H.size → ¬ A1 q → H1[q]? = H[q]?) → va_S A0 H0 H1 locs1 → W p l e R s m args below meth c H1 locs1 (cells + mc) (slots + ms) Q (F0 m (pc + 3) ls (rest))) : W p l e R s m args below meth c H locs cells slots Q (F0 m pc ls st0) := by
  intro T hT X
  rcases hr T hT X with ⟨v, st₀, t, T', L, h0, X', hL, e1, e2, ⟨⟨u, hv, hp, hb⟩, hF⟩, st⟩ | ⟨q, st₀, t, T', L, E, ce, h0, X', hL, e1, e2, ⟨u, hp, hb, hF⟩, hce, hcv, hcl, st⟩
  · cases hv
    obtain ⟨k1, k2, k3⟩ := vx_keep h0 e1 hS hA hf hL hF
    obtain ⟨t2, a1, b1⟩ := kk u t T'.heap (locs ++ L) e1.symm (by rw [← e2]; exact X'.warmed.alike) hp hb k1 k2 k3 T' rfl X'
    exact ⟨t2, st t2 a1, b1⟩
  · obtain ⟨k1, k2, k3⟩ := vx_keep h0 e1 hS hAX hf hL hF
    obtain ⟨t2, a1, b1⟩ := kx E ce q u t T'.heap (locs ++ L) e1.symm (by rw [← e2]; exact X'.warmed.alike) hp hb k1 k2 k3 (by rw [e1]; exact hce) hcv hcl T' rfl X'
    exact ⟨t2, st.trans a1, b1⟩
/-- caught by the row x of this method's table; the rows ahead don't take it -/
theorem vx_catch {own name : String} {E : String} {ce : Cell} {q : Addr} (hown : s.vm.findClass own = some m.cls) (pre : List ExceptionTableEntry) (x : ExceptionTableEntry) (suf : List ExceptionTableEntry) (hsplit : c.exceptionTable.toList = pre ++ x :: suf)
    (hpass : ∀ z ∈ pre, covers z pc = false ∨ (z.catchType ≠ 0 ∧ ∃ nm : String, (Cond.classLink own z.catchType nm).before args s = true ∧ va_Nc E nm s)) (hx : covers x pc = true) (h0 : x.catchType ≠ 0)
    (hlink : (Cond.classLink own x.catchType name).before args s = true) (hcast : (Cond.castable E name).before args s = true) (hcell : H[q]? = some ce) (hv : ce.vm = .none) (hcl : s.vm.findClass E = some ce.cls)
    (kk : W p l e R s m args below meth c H locs cells slots Q (F0 m x.handlerPc ls [.ref q])) : vx_W p l e R s m args below meth c H locs cells slots Q (F0 m pc ls rest) q := by
  intro T hT X
  have hpl : e.platform.magicAccessors = ({} : Platform).magicAccessors := by rw [X.admits.platform]
  obtain ⟨c3, c4, hc3, hc4, hasg⟩ := Cond.castable_spec hcast
  cases Option.some.inj (hc3.symm.trans hcl)
  obtain ⟨c5, hc5, hcl5⟩ := Cond.classLink_spec hown hlink e.platform hpl
  cases Option.some.inj (hc4.symm.trans hc5)
  obtain ⟨vm', X', st⟩ := X.thenCaughtThrough q (g := F0 m pc ls rest) rfl (Steps.refl _) (by rw [hT]; exact hcell) (by rw [hv]; rfl) (by obtain ⟨k9, h9, -⟩ := Vm.findClass_spec hcl; exact ⟨k9, h9⟩) pre x suf hsplit
    (fun z hz => by
      rcases hpass z hz with h | ⟨hz0, nm, hl1, hn1⟩
      · exact Or.inl h
      · obtain ⟨c6, hc6, hcl6⟩ := Cond.classLink_spec hown hl1 e.platform hpl
        obtain ⟨a8, b8, h1, h2, h3⟩ := hn1
        cases Option.some.inj (h1.symm.trans hcl)
        cases Option.some.inj (h2.symm.trans hc6)
        exact Or.inr ⟨hz0, _, hcl6, h3⟩) hx (Or.inr ⟨h0, c4, hcl5, hasg⟩)
  obtain ⟨t, a1, b1⟩ := kk (T.setVm vm') hT X'
  exact ⟨t, st.trans a1, b1⟩
end Rows
section Ends
variable {p : Program} {l : Launch} {e : Env} {R : Room} {s : State} {m : MethodId} {args : Array Value} {below : List Frame} {meth : Method} {c : Code} {H : Heap} {locs : List Loc} {cells slots : Nat} {Q : State → Prop}
variable {mc ms : Nat} {free : Addr → Prop} {A0 A1 : Nat → Prop} {H0 : Heap} {a : Array Value} {ls : Array Slot} {st0 rest : List Value}
variable {Qc : Array Value → State → Outcome → State → Prop} {XC : String → State → State → Prop}
/-- what a body that may throw owes at its end -/
def vx_MQ (below : List Frame) (Qc : Array Value → State → Outcome → State → Prop) (XC : String → State → State → Prop) (a : Array Value) (s : State) (mc ms : Nat) (free : Addr → Prop) : State → Prop := fun t =>
  ∃ o, t.status = .running ∧ Ended t below o ∧ vx_Q Qc XC mc ms free a s o t
theorem vx_ret {g : JFrame} {mc ms : Nat} (k : W p l e R s m args below meth c H locs cells slots (MQ below Qc args s mc ms free) g) : W p l e R s m args below meth c H locs cells slots (vx_MQ below Qc XC args s mc ms free) g := by
  intro T hT X
  obtain ⟨t, a1, o, b1, b2, b3, b4⟩ := k T hT X
  exact ⟨t, a1, o, b1, b2, Or.inl ⟨b3, b4⟩⟩
/-- not caught here: it goes on to the caller -/
theorem vx_widen {g : JFrame} {q : Addr} {k n : Nat} (h1 : cells ≤ k) (h2 : slots ≤ n) (kk : vx_W p l e R s m args below meth c H locs k n Q g q) : vx_W p l e R s m args below meth c H locs cells slots Q g q := fun T hT X => kk T hT (stand_widen X h1 h2)
theorem vx_out {pc : Nat} {E : String} {ce : Cell} {q : Addr} {mc ms : Nat} (hout : ∀ x ∈ c.exceptionTable.toList, covers x pc = false) (hlocks : meth.locks = false) (hcell : H[q]? = some ce) (hv : ce.vm = .none) (hcl : s.vm.findClass E = some ce.cls)
    (hx : ∀ t : State, t.heap = H → s.vm.Alike t.vm → XC E s t) (hf : ∀ z ∈ locs, free z.base) (hc : cells ≤ mc) (hs : slots ≤ ms) :
    vx_W p l e R s m args below meth c H locs cells slots (vx_MQ below Qc XC args s mc ms free) (F0 m pc ls rest) q := by
  intro T hT X
  obtain ⟨st1, hrun, hend, hW, hsm⟩ := X.leaveThrown q (g := F0 m pc ls rest) rfl rfl rfl hout hlocks
  have hcell9 : (T.setFrames (.throwing q :: below)).heap[q]? = some ce := by
    show T.heap[q]? = some ce
    rw [hT]; exact hcell
  exact ⟨_, st1, .threw q, hrun, hend, Or.inr ⟨q, rfl, E, ce, locs, hx _ hT hW.alike, hcell9, hv, hcl, hW, hsm.mono hc hs, hf⟩⟩
theorem vx_frame {U : State} {k n : Nat} (h : s.sameButNew ({ U with vm := s.vm } : State) locs k n) : s.heap.size ≤ U.heap.size ∧ ∀ q : Nat, q < s.heap.size → (∀ z ∈ locs, z.base ≠ q) → U.heap[q]? = s.heap[q]? := by
  obtain ⟨-, h2, -, -, -, h6⟩ := h
  refine ⟨h2, fun q hq hz => ?_⟩
  obtain ⟨c9, e1, e2, e3, e4⟩ := h6 q _ (Array.getElem?_eq_getElem hq)
  have hs : c9.slots = (s.heap[q]).slots := Array.ext_getElem? fun i => e4 i fun hm => hz _ hm rfl
  have h9 : c9 = s.heap[q] := by
    rw [hs] at e2
    exact e2
  have e5 : U.heap[q]? = some c9 := e1
  rw [e5, h9, Array.getElem?_eq_getElem hq]
/-- the words of a throw but the four that speak of the heap -/
def vx_no (w : Cond) : Bool := decide (w ≠ .isRef (.static Bundle.tN "UNASSIGNED_STACK" Bundle.steD)) && decide (w ≠ .isRef (.static Bundle.tN "SUPPRESSED_SENTINEL" Bundle.listD)) && decide (w ≠ .laysStatic Bundle.tN "UNASSIGNED_STACK" Bundle.steD) && decide (w ≠ .laysStatic Bundle.tN "SUPPRESSED_SENTINEL" Bundle.listD)
def vx_at0 (own : String) (ic : Nat) (X : String) (names : List String) : List Cond := (Bundle.ownAtoms0 own ic X names).filter vx_no
def vx_atS (own : String) (ic : Nat) (X : String) (names : List String) : List Cond := (Bundle.ownAtoms own ic X names).filter vx_no
/-- a word that the tables alone decide, or a good one -/
def vx_ot (w : Cond) : Bool := w.onTables || goodWord w
theorem vx_ot_at {args a' : Array Value} {s U : State} {w : Cond} (hW : s.WarmedH U.vm) (hvm : s.vm = U.vm) (hg : vx_ot w = true) (h : w.before args s = true) : w.before a' U = true := by
  simp only [vx_ot, Bool.or_eq_true] at hg
  rcases hg with hg | hg
  · exact va_tabs hg hvm h
  · exact word_at hW (good_of_word hg) h
/-- a list's words: the good ones out of the method's own list, the others by premises of their own -/
theorem vx_hat {args : Array Value} {s : State} {L B : List Cond} (h1 : ∀ w ∈ L.filter goodWord, w.before args s = true) (h2 : ∀ w ∈ L.filter (fun w => !goodWord w), w ∈ B) (h3 : ∀ w ∈ B, w.before args s = true) : ∀ w ∈ L, w.before args s = true := by
  intro w hw
  by_cases g : goodWord w = true
  · exact h1 w (List.mem_filter.mpr ⟨hw, g⟩)
  · refine h3 w (h2 w (List.mem_filter.mpr ⟨hw, ?_⟩))
    show (!goodWord w) = true
    cases hgw : goodWord w
    · rfl
    · exact absurd hgw g
theorem vx_c {args : Array Value} {s : State} {w : Cond} {B : List Cond} (h : w.before args s = true) (t : ∀ w ∈ B, w.before args s = true) : ∀ w' ∈ w :: B, w'.before args s = true := fun w' h' => (List.mem_cons.mp h').elim (fun e => by rw [e]; exact h) (t w')
theorem vx_n {args : Array Value} {s : State} : ∀ w ∈ ([] : List Cond), w.before args s = true := fun _ h => nomatch h
theorem vx_own {args : Array Value} {s : State} {L : List Cond} (h1 : ∀ w ∈ L.filter vx_no, w.before args s = true)
    (hU : (Cond.isRef (.static Bundle.tN "UNASSIGNED_STACK" Bundle.steD)).before args s = true) (hN : (Cond.isRef (.static Bundle.tN "SUPPRESSED_SENTINEL" Bundle.listD)).before args s = true)
    (lU : (Cond.laysStatic Bundle.tN "UNASSIGNED_STACK" Bundle.steD).before args s = true) (lN : (Cond.laysStatic Bundle.tN "SUPPRESSED_SENTINEL" Bundle.listD).before args s = true) : ∀ w ∈ L, w.before args s = true := by
  intro w hw
  by_cases e1 : w = .isRef (.static Bundle.tN "UNASSIGNED_STACK" Bundle.steD)
  · rw [e1]; exact hU
  · by_cases e2 : w = .isRef (.static Bundle.tN "SUPPRESSED_SENTINEL" Bundle.listD)
    · rw [e2]; exact hN
    · by_cases e3 : w = .laysStatic Bundle.tN "UNASSIGNED_STACK" Bundle.steD
      · rw [e3]; exact lU
      · by_cases e4 : w = .laysStatic Bundle.tN "SUPPRESSED_SENTINEL" Bundle.listD
        · rw [e4]; exact lN
        · exact h1 w (List.mem_filter.mpr ⟨hw, by unfold vx_no; rw [decide_eq_true e1, decide_eq_true e2, decide_eq_true e3, decide_eq_true e4]; rfl⟩)
/-- where a static field lies, its class's statics cell in H -/
def vx_L (C n d : String) (A : Nat → Prop) (U : State) (H : Heap) : Prop := ∃ (c : ClassId) (k : Class) (i : Nat) (f : Field) (a : Nat) (cell : Cell), U.vm.findClass C = some c ∧ U.fieldFound? C n d = some (c, k, i, f) ∧ f.isStatic = true ∧ k.statics = some a ∧ H[a]? = some cell ∧ cell.vm.isStatics = true ∧ cell.cls = c ∧ f.slot < cell.slots.size ∧ k.staticTypes[f.slot]? = some f.type ∧ ¬ A a
theorem vx_L.moved {C n d : String} {A : Nat → Prop} {u U : State} {H : Heap} (hvm : u.vm.Alike U.vm) (h : vx_L C n d A u H) : vx_L C n d A U H := by
  obtain ⟨c, k, i, f, a, cell, h1, h2, h3, h4, h5, h6, h7, h8, h9, h10⟩ := h
  obtain ⟨k', hi', he⟩ := State.fieldFound?_setVm hvm h2
  exact ⟨c, k', i, f, a, cell, by rw [hvm.findClass]; exact h1, hi', h3, by rw [he]; exact h4, h5, h6, h7, h8, by rw [he]; exact h9, h10⟩
theorem vx_L.kept {C n d : String} {A : Nat → Prop} {U : State} {H H1 : Heap} (h : vx_L C n d A U H) (hq : ∀ a : Nat, a < H.size → ¬ A a → H1[a]? = H[a]?) : vx_L C n d A U H1 := by
  obtain ⟨c, k, i, f, a, cell, h1, h2, h3, h4, h5, h6, h7, h8, h9, h10⟩ := h
  exact ⟨c, k, i, f, a, cell, h1, h2, h3, h4, by rw [hq a (Array.getElem?_eq_some_iff.mp h5).1 h10]; exact h5, h6, h7, h8, h9, h10⟩
theorem vx_L.narrow {C n d : String} {A B : Nat → Prop} {U : State} {H : Heap} (h : vx_L C n d A U H) (hAB : ∀ q, B q → A q) : vx_L C n d B U H := by
  obtain ⟨c, k, i, f, a, cell, h1, h2, h3, h4, h5, h6, h7, h8, h9, h10⟩ := h
  exact ⟨c, k, i, f, a, cell, h1, h2, h3, h4, h5, h6, h7, h8, h9, fun z => h10 (hAB _ z)⟩
theorem vx_L.word {C n d : String} {A : Nat → Prop} {s : State} {args : Array Value} (h : vx_L C n d A s s.heap) : (Cond.laysStatic C n d).before args s = true := by
  obtain ⟨c, k, i, f, a, cell, h1, h2, h3, h4, h5, h6, h7, h8, h9, -⟩ := h
  show (Cond.laysStatic C n d).holds args s none s [] = true
  exact Cond.laysStatic_of h1 h2 h3 h4 h5 h6 h7 h8 h9
/-- .. and what it holds: null or some reference -/
def vx_Zq (C n d : String) (A : Nat → Prop) (U : State) (H : Heap) : Prop := va_Zq C n d A U H ∧ vx_L C n d A U H
theorem vx_Zq.moved {C n d : String} {A : Nat → Prop} {u U : State} {H : Heap} (hvm : u.vm.Alike U.vm) (h : vx_Zq C n d A u H) : vx_Zq C n d A U H := ⟨va_Zq.moved hvm h.1, vx_L.moved hvm h.2⟩
theorem vx_Zq.kept {C n d : String} {A : Nat → Prop} {U : State} {H H1 : Heap} (h : vx_Zq C n d A U H) (hq : ∀ a : Nat, a < H.size → ¬ A a → H1[a]? = H[a]?) : vx_Zq C n d A U H1 := ⟨va_Zq.kept h.1 hq, vx_L.kept h.2 hq⟩
theorem vx_Zq.narrow {C n d : String} {A B : Nat → Prop} {U : State} {H : Heap} (h : vx_Zq C n d A U H) (hAB : ∀ q, B q → A q) : vx_Zq C n d B U H := ⟨va_Zq.narrow h.1 hAB, vx_L.narrow h.2 hAB⟩
theorem vx_Zqof {args : Array Value} {s : State} {C n d : String} {A : Nat → Prop} (hl : (Cond.laysStatic C n d).before args s = true) (hini : (Cond.initialized C).before args s = true) (h : (Cond.isRef (.static C n d)).before args s = true) (hA : ∀ a : Nat, a < s.heap.size → ¬ A a) : vx_Zq C n d A s s.heap := by
  refine ⟨va_Zqof hl hini h hA, ?_⟩
  obtain ⟨c, k, i, f, a, cell, h1, h2, h3, h4, h5, h6, h7, h8, h9⟩ := Cond.laysStatic_spec hl
  exact ⟨c, k, i, f, a, cell, h1, h2, h3, h4, h5, h6, h7, h8, h9, hA a (Array.getElem?_eq_some_iff.mp h5).1⟩
theorem vx_isRef {C n d : String} {v : Value} {A : Nat → Prop} {s : State} {args : Array Value} (h : va_Z C n d v A s s.heap) (hv : v.isRef = true) : (Cond.isRef (.static C n d)).before args s = true := by
  obtain ⟨cf, kf, fi, f, a, cell, h1, h2, h3, h4, h5, h6, h7, -⟩ := h
  have he : (Term.static C n d).eval args s none [] s = some v := by
    simp [Term.eval, State.fieldNamed?, h1, h2, h4, h5, h6, h7]
  simp only [Cond.before, Cond.holds, Cond.value, he]
  cases v <;> simp_all [Value.isRef]
theorem vx_isRefq {C n d : String} {A : Nat → Prop} {s : State} {args : Array Value} (h : va_Zq C n d A s s.heap) : (Cond.isRef (.static C n d)).before args s = true := by
  rcases h with h | ⟨t, h⟩
  · exact vx_isRef h rfl
  · exact vx_isRef h rfl
/-- the same frame, seen from here: as if the method were called anew in this heap -/
theorem vx_rebase {T : State} (X : Stand p l e R s m args below meth c T locs cells slots) {R' : Room} (hf : R'.frames ≤ R.frames) (hl : R'.locals ≤ R.locals) (hc : cells + R'.cells ≤ R.cells) (hs : slots + R'.slots ≤ R.slots) :
    Stand p l e R' ((T.setVm s.vm).setFrames (.invoking m args :: below)) m args below meth c T [] 0 0 := by
  have htop : (T.setVm s.vm).topJava?.isSome := X.here.top
  have hF : ((T.setVm s.vm).setFrames (.invoking m args :: below)).frames = .invoking m args :: below := State.frames_setFrames _ (State.cur_lt_of_top htop)
  obtain ⟨g₀, hg0⟩ := Option.isSome_iff_exists.mp htop
  obtain ⟨r, hr⟩ := State.topJava?_eq_some.mp hg0
  have hl9 : e.platform.stackLimits (T.setVm s.vm).me = e.platform.stackLimits s.me := X.limits
  have hb9 : (T.setVm s.vm).me.stackBytes = s.me.stackBytes := X.bytes
  refine ⟨X.admits, X.cas, X.clock, hF, ?_, X.hears, X.method, X.code, X.here, X.tail, X.warmed, ?_, ?_, ?_⟩
  · have h := X.room
    have hU : ((T.setVm s.vm).setFrames (.invoking m args :: below)).localsInUse = s.localsInUse := by
      rw [State.localsInUse_invoking hF (meth := meth) (c := c) X.method X.code, State.localsInUse_invoking X.frames X.method X.code]
    simp only [State.hasRoom, Bool.and_eq_true, decide_eq_true_eq] at h ⊢
    obtain ⟨⟨⟨⟨h1, h2, h3, h4, h5, h6⟩, h7⟩, h8⟩, h9⟩ := h
    rw [X.frames, List.length_cons] at h2 h3
    have q1 := X.heapSize
    have q2 := X.used
    simp only [hF, hU, List.length_cons, State.stackLimits_setFrames, State.stackBytes_setFrames, hl9, hb9]
    refine ⟨⟨⟨⟨by omega, by omega, by omega, by omega, by omega, h6⟩, ?_⟩, ?_⟩, X.book⟩
    · show T.heap.size + R'.cells ≤ e.platform.maxCells
      omega
    · show T.slotsUsed + R'.slots ≤ e.platform.maxSlots
      omega
  · rw [State.stackLimits_setFrames]; rfl
  · rw [State.stackBytes_setFrames]; rfl
  · refine ⟨?_, Nat.le_refl _, Nat.le_refl _, ?_, ?_, fun a c9 h9 => ⟨c9, h9, rfl, rfl, fun _ _ => rfl⟩⟩
    · obtain ⟨t, ht, -⟩ := State.frames_cons hr
      show T.setVm s.vm = { ((T.setVm s.vm).setFrames (.invoking m args :: below)).setFrames (T.setVm s.vm).frames with heap := T.heap, slotsUsed := T.slotsUsed }
      rw [State.setFrames_setFrames, State.setFrames_self ht]
      rfl
    · show T.slotsUsed = T.slotsUsed + ((T.heap.toList.drop T.heap.size).map (·.slots.size)).sum
      rw [List.drop_eq_nil_of_le (Nat.le_of_eq Array.length_toList)]
      rfl
    · show ((T.heap.toList.drop T.heap.size).map (·.slots.size)).sum ≤ 0
      rw [List.drop_eq_nil_of_le (Nat.le_of_eq Array.length_toList)]
      exact Nat.le_refl _
/-- 'throw new E()': new; dup; invokespecial; athrow -/
theorem vx_throw0 {cc : ByteArray} {pc : Nat} (hexec : p.tables.exec = Jvm.exec) (hb : c.code = cc) (hl : l.stackTraces = false) {own cls : String} {names : List String} {ik ic mc ms : Nat} {A : Nat → Prop}
    (hown : s.vm.findClass own = some m.cls) (hcls : Bundle.fit cls = true) (hnames : ∀ n ∈ names, Bundle.fit n = true)
    (hk : (Cond.classLink own ik cls).before args s = true) (hini : (Cond.initialized cls).before args s = true) (hat : ∀ w ∈ vx_at0 own ic cls names, w.before args s = true)
    (hgood : ∀ w ∈ Cond.classLink own ik cls :: Cond.initialized cls :: vx_at0 own ic cls names, vx_ot w = true)
    (hU : vx_Zq Bundle.tN "UNASSIGNED_STACK" Bundle.steD A s s.heap) (hN : vx_Zq Bundle.tN "SUPPRESSED_SENTINEL" Bundle.listD A s s.heap) (hS : va_S A s.heap H locs) (hsize : ls.size = c.maxLocals)
    (d0 : decode cc pc = .ok (.new ik, 3)) (d3 : decode cc (pc + 3) = .ok (.dup, 1)) (d4 : decode cc (pc + 4) = .ok (.invokespecial ic, 3)) (d7 : decode cc (pc + 7) = .ok (.athrow, 1))
    (hout : ∀ x ∈ c.exceptionTable.toList, covers x (pc + 7) = false)
    (hRframes : names.length + 3 < R.frames) (hRlocals : (rest.map fun v => v.category).sum + (13 * (names.length + 1) + 42) ≤ R.locals) (hRcells : cells + 1 ≤ R.cells) (hRslots : slots + 6 ≤ R.slots) (hlocks : meth.locks = false)
    (hx : ∀ t : State, s.vm.Alike t.vm → H.size ≤ t.heap.size → (∀ q : Nat, q < H.size → t.heap[q]? = H[q]?) → XC cls s t)
    (hf : ∀ z ∈ locs, free z.base) (hc : cells + 1 ≤ mc) (hs : slots + 6 ≤ ms) :
    W p l e R s m args below meth c H locs cells slots (vx_MQ below Qc XC args s mc ms free) (F0 m pc ls rest) := by
  intro T hT X
  have htr : e.platform.stackTraces = false := (show e.platform.stackTraces = l.stackTraces by rw [X.admits.platform]).trans hl
  have Y := vx_rebase X (R' := { frames := R.frames, locals := R.locals, cells := 1, slots := 6 }) (Nat.le_refl _) (Nat.le_refl _) hRcells hRslots
  obtain ⟨s', hA⟩ : ∃ z, z = (T.setVm s.vm).setFrames (.invoking m args :: below) := ⟨_, rfl⟩
  rw [← hA] at Y
  have hvm : s'.vm = s.vm := by rw [hA]; rfl
  have hhp : s'.heap = H := by rw [hA]; exact hT
  have hW0 : s.WarmedH s'.vm := by rw [hvm]; exact State.WarmedH.refl s
  have hat' : ∀ w ∈ vx_at0 own ic cls names, w.before args s' = true := fun w hw => vx_ot_at hW0 hvm.symm (hgood w (List.mem_cons_of_mem _ (List.mem_cons_of_mem _ hw))) (hat w hw)
  have hk' : (Cond.classLink own ik cls).before args s' = true := vx_ot_at hW0 hvm.symm (hgood _ List.mem_cons_self) hk
  have hini' : (Cond.initialized cls).before args s' = true := vx_ot_at hW0 hvm.symm (hgood _ (List.mem_cons_of_mem _ List.mem_cons_self)) hini
  have hU' : vx_Zq Bundle.tN "UNASSIGNED_STACK" Bundle.steD A s' s'.heap := by rw [hhp]; exact vx_Zq.moved hW0.alike (hU.kept hS.2.1)
  have hN' : vx_Zq Bundle.tN "SUPPRESSED_SENTINEL" Bundle.listD A s' s'.heap := by rw [hhp]; exact vx_Zq.moved hW0.alike (hN.kept hS.2.1)
  have h : ∀ w ∈ Bundle.ownAtoms0 own ic cls names, w.before args s' = true := vx_own hat' (vx_isRefq hU'.1) (vx_isRefq hN'.1) hU'.2.word hN'.2.word
  have hown' : s'.vm.findClass own = some m.cls := by rw [hvm]; exact hown
  have hins : (Cond.instantiable cls 6).before args s' = true := h _ (by simp [Bundle.ownAtoms0])
  obtain ⟨vm₁, cX, kX, hfX, hkX, -, -, X₁, st1⟩ := Y.newCold hexec (own := own) (C := cls) (index := ik) (n := 6) hown' hk' hins hini'
    (g := F0 m pc ls rest) rfl (by rw [hb]; exact d0) (Nat.le_refl _) (Nat.le_refl _)
  generalize hT1 : (T.setVm vm₁).pushCell { cls := cX, slots := kX.instanceTypes.map defaultValue, vm := .none } = T1 at X₁ st1
  have hcat : (Value.ref T.heap.size).category = 1 := rfl
  have hcellA : T1.heap[T.heap.size]? = some (freshCell cX kX) := by rw [← hT1]; exact State.heap_pushCell_size _ _
  have d3' : decode c.code (pc + 3) = .ok (.dup, 1) := by rw [hb]; exact d3
  obtain ⟨U, hsteps, hrun, hend, hW, hsame, ce, hce, hO⟩ := X₁.ctorThrow0 hexec htr (own := own) (cls := cls) (names := names) (ic := ic) hown' hcls hnames h (fun x hx => nomatch hx) hfX hkX hcellA (by rw [hhp, hT]; exact Nat.le_refl _)
    (g := { method := m, pc := pc + 4, locals := ls, stack := .ref T.heap.size :: .ref T.heap.size :: rest, locked := none }) rfl hsize rfl rfl (rest := rest) rfl
    (by rw [hb]; exact d4) (by rw [hb]; exact d7) hout hRframes (by simp only [List.map_cons, List.sum_cons, hcat]; omega) hlocks
  obtain ⟨f1, f2⟩ := vx_frame hsame
  rw [hhp] at f1 f2
  have hWs : s.WarmedH U.vm := State.WarmedH.trans hW0 hW
  have hcl : s.vm.findClass cls = some ce.cls := by
    have h9 := hO.cls
    rw [hvm] at h9
    exact h9
  have hall : s.sameButNew ({ U with vm := s.vm } : State) locs mc ms := by
    subst hA
    obtain ⟨e1, e2⟩ := hsame
    rw [State.setFrames_setFrames] at e1
    have h2 : (T.setVm s.vm).sameButNew ({ U with vm := s.vm } : State) [] (0 + 1) (0 + 6) := ⟨e1, e2⟩
    have h3 := X.same.trans h2
    rw [List.append_nil] at h3
    exact h3.mono hc hs
  refine ⟨U, ?_, .threw T.heap.size, hrun, hend, Or.inr ⟨T.heap.size, rfl, cls, ce, locs, hx U hWs.alike f1 (fun q hq => f2 q hq (fun z hz => nomatch hz)), hce, hO.vm, hcl, hWs, hall, hf⟩⟩
  refine st1 _ ?_
  show Steps p.tables e below (T1.setTop { method := m, pc := pc + 3, locals := ls, stack := .ref T.heap.size :: rest, locked := none }) _
  jvm_step X₁.here [X₁.here.top, hexec, d3', Value.category]
  exact hsteps
/-- 'throw new E("text")': new; dup; ldc; invokespecial; athrow -/
theorem vx_throwS {cc : ByteArray} {pc : Nat} (hexec : p.tables.exec = Jvm.exec) (hb : c.code = cc) (hl : l.stackTraces = false) {own cls text : String} {names : List String} {ik is ic mc ms sa : Nat} {A : Nat → Prop}
    (hown : s.vm.findClass own = some m.cls) (hcls : Bundle.fit cls = true) (hnames : ∀ n ∈ names, Bundle.fit n = true)
    (hk : (Cond.classLink own ik cls).before args s = true) (hini : (Cond.initialized cls).before args s = true) (hstr : vk_R own is text sa s) (hat : ∀ w ∈ vx_atS own ic cls names, w.before args s = true)
    (hgood : ∀ w ∈ Cond.classLink own ik cls :: Cond.initialized cls :: vx_atS own ic cls names, vx_ot w = true)
    (hU : vx_Zq Bundle.tN "UNASSIGNED_STACK" Bundle.steD A s s.heap) (hN : vx_Zq Bundle.tN "SUPPRESSED_SENTINEL" Bundle.listD A s s.heap) (hS : va_S A s.heap H locs) (hsize : ls.size = c.maxLocals)
    (d0 : decode cc pc = .ok (.new ik, 3)) (d3 : decode cc (pc + 3) = .ok (.dup, 1)) (d4 : decode cc (pc + 4) = .ok (.ldc is, 2)) (d6 : decode cc (pc + 6) = .ok (.invokespecial ic, 3)) (d9 : decode cc (pc + 9) = .ok (.athrow, 1))
    (hout : ∀ x ∈ c.exceptionTable.toList, covers x (pc + 9) = false)
    (hRframes : names.length + 3 < R.frames) (hRlocals : (rest.map fun v => v.category).sum + (13 * (names.length + 1) + 43) ≤ R.locals) (hRcells : cells + 1 ≤ R.cells) (hRslots : slots + 6 ≤ R.slots) (hlocks : meth.locks = false)
    (hx : ∀ t : State, s.vm.Alike t.vm → H.size ≤ t.heap.size → (∀ q : Nat, q < H.size → t.heap[q]? = H[q]?) → XC cls s t)
    (hf : ∀ z ∈ locs, free z.base) (hc : cells + 1 ≤ mc) (hs : slots + 6 ≤ ms) :
    W p l e R s m args below meth c H locs cells slots (vx_MQ below Qc XC args s mc ms free) (F0 m pc ls rest) := by
  intro T hT X
  have htr : e.platform.stackTraces = false := (show e.platform.stackTraces = l.stackTraces by rw [X.admits.platform]).trans hl
  have Y := vx_rebase X (R' := { frames := R.frames, locals := R.locals, cells := 1, slots := 6 }) (Nat.le_refl _) (Nat.le_refl _) hRcells hRslots
  obtain ⟨s', hA⟩ : ∃ z, z = (T.setVm s.vm).setFrames (.invoking m args :: below) := ⟨_, rfl⟩
  rw [← hA] at Y
  have hvm : s'.vm = s.vm := by rw [hA]; rfl
  have hhp : s'.heap = H := by rw [hA]; exact hT
  have hW0 : s.WarmedH s'.vm := by rw [hvm]; exact State.WarmedH.refl s
  have hat' : ∀ w ∈ vx_atS own ic cls names, w.before args s' = true := fun w hw => vx_ot_at hW0 hvm.symm (hgood w (List.mem_cons_of_mem _ (List.mem_cons_of_mem _ hw))) (hat w hw)
  have hk' : (Cond.classLink own ik cls).before args s' = true := vx_ot_at hW0 hvm.symm (hgood _ List.mem_cons_self) hk
  have hini' : (Cond.initialized cls).before args s' = true := vx_ot_at hW0 hvm.symm (hgood _ (List.mem_cons_of_mem _ List.mem_cons_self)) hini
  have hU' : vx_Zq Bundle.tN "UNASSIGNED_STACK" Bundle.steD A s' s'.heap := by rw [hhp]; exact vx_Zq.moved hW0.alike (hU.kept hS.2.1)
  have hN' : vx_Zq Bundle.tN "SUPPRESSED_SENTINEL" Bundle.listD A s' s'.heap := by rw [hhp]; exact vx_Zq.moved hW0.alike (hN.kept hS.2.1)
  have h : ∀ w ∈ Bundle.ownAtoms own ic cls names, w.before args s' = true := vx_own hat' (vx_isRefq hU'.1) (vx_isRefq hN'.1) hU'.2.word hN'.2.word
  have hown' : s'.vm.findClass own = some m.cls := by rw [hvm]; exact hown
  have hins : (Cond.instantiable cls 6).before args s' = true := h _ (by simp [Bundle.ownAtoms])
  obtain ⟨vm₁, cX, kX, hfX, hkX, -, -, X₁, st1⟩ := Y.newCold hexec (own := own) (C := cls) (index := ik) (n := 6) hown' hk' hins hini'
    (g := F0 m pc ls rest) rfl (by rw [hb]; exact d0) (Nat.le_refl _) (Nat.le_refl _)
  generalize hT1 : (T.setVm vm₁).pushCell { cls := cX, slots := kX.instanceTypes.map defaultValue, vm := .none } = T1 at X₁ st1
  have hcat : (Value.ref T.heap.size).category = 1 := rfl
  have hcellA : T1.heap[T.heap.size]? = some (freshCell cX kX) := by rw [← hT1]; exact State.heap_pushCell_size _ _
  have d3' : decode c.code (pc + 3) = .ok (.dup, 1) := by rw [hb]; exact d3
  have d4' : decode c.code (pc + 4) = .ok (.ldc is, 2) := by rw [hb]; exact d4
  have hstr' : vk_R own is text sa s' := vk_R.warm hW0 hstr
  obtain ⟨U, hsteps, hrun, hend, hW, hsame, ce, hce, hO⟩ := X₁.ctorThrowS hexec htr (own := own) (cls := cls) (names := names) (ic := ic) hown' hcls hnames h (fun x hx => nomatch hx) hfX hkX hcellA (by rw [hhp, hT]; exact Nat.le_refl _) (msg := .ref sa) rfl
    (g := { method := m, pc := pc + 6, locals := ls, stack := .ref sa :: .ref T.heap.size :: .ref T.heap.size :: rest, locked := none }) rfl hsize rfl rfl (rest := rest) rfl
    (by rw [hb]; exact d6) (by rw [hb]; exact d9) hout hRframes (by simp only [List.map_cons, List.sum_cons, hcat]; omega) hlocks
  obtain ⟨f1, f2⟩ := vx_frame hsame
  rw [hhp] at f1 f2
  have hWs : s.WarmedH U.vm := State.WarmedH.trans hW0 hW
  have hcl : s.vm.findClass cls = some ce.cls := by
    have h9 := hO.cls
    rw [hvm] at h9
    exact h9
  have hall : s.sameButNew ({ U with vm := s.vm } : State) locs mc ms := by
    subst hA
    obtain ⟨e1, e2⟩ := hsame
    rw [State.setFrames_setFrames] at e1
    have h2 : (T.setVm s.vm).sameButNew ({ U with vm := s.vm } : State) [] (0 + 1) (0 + 6) := ⟨e1, e2⟩
    have h3 := X.same.trans h2
    rw [List.append_nil] at h3
    exact h3.mono hc hs
  refine ⟨U, ?_, .threw T.heap.size, hrun, hend, Or.inr ⟨T.heap.size, rfl, cls, ce, locs, hx U hWs.alike f1 (fun q hq => f2 q hq (fun z hz => nomatch hz)), hce, hO.vm, hcl, hWs, hall, hf⟩⟩
  refine st1 _ ?_
  show Steps p.tables e below (T1.setTop { method := m, pc := pc + 3, locals := ls, stack := .ref T.heap.size :: rest, locked := none }) _
  jvm_step X₁.here [X₁.here.top, hexec, d3', Value.category]
  exact X₁.ldcString hexec (own := own) (text := text) (index := is) (a := sa) hown' hstr'.1 hstr'.2
    (g := { method := m, pc := pc + 4, locals := ls, stack := .ref T.heap.size :: .ref T.heap.size :: rest, locked := none }) rfl d4' _ hsteps
/-- 'throw new E("text")', the text by a wide index -/
theorem vx_throwSW {cc : ByteArray} {pc : Nat} (hexec : p.tables.exec = Jvm.exec) (hb : c.code = cc) (hl : l.stackTraces = false) {own cls text : String} {names : List String} {ik is ic mc ms sa : Nat} {A : Nat → Prop}
    (hown : s.vm.findClass own = some m.cls) (hcls : Bundle.fit cls = true) (hnames : ∀ n ∈ names, Bundle.fit n = true)
    (hk : (Cond.classLink own ik cls).before args s = true) (hini : (Cond.initialized cls).before args s = true) (hstr : vk_R own is text sa s) (hat : ∀ w ∈ vx_atS own ic cls names, w.before args s = true)
    (hgood : ∀ w ∈ Cond.classLink own ik cls :: Cond.initialized cls :: vx_atS own ic cls names, vx_ot w = true)
    (hU : vx_Zq Bundle.tN "UNASSIGNED_STACK" Bundle.steD A s s.heap) (hN : vx_Zq Bundle.tN "SUPPRESSED_SENTINEL" Bundle.listD A s s.heap) (hS : va_S A s.heap H locs) (hsize : ls.size = c.maxLocals)
    (d0 : decode cc pc = .ok (.new ik, 3)) (d3 : decode cc (pc + 3) = .ok (.dup, 1)) (d4 : decode cc (pc + 4) = .ok (.ldc_w is, 3)) (d7 : decode cc (pc + 7) = .ok (.invokespecial ic, 3)) (d10 : decode cc (pc + 10) = .ok (.athrow, 1))
    (hout : ∀ x ∈ c.exceptionTable.toList, covers x (pc + 10) = false)
    (hRframes : names.length + 3 < R.frames) (hRlocals : (rest.map fun v => v.category).sum + (13 * (names.length + 1) + 43) ≤ R.locals) (hRcells : cells + 1 ≤ R.cells) (hRslots : slots + 6 ≤ R.slots) (hlocks : meth.locks = false)
    (hx : ∀ t : State, s.vm.Alike t.vm → H.size ≤ t.heap.size → (∀ q : Nat, q < H.size → t.heap[q]? = H[q]?) → XC cls s t)
    (hf : ∀ z ∈ locs, free z.base) (hc : cells + 1 ≤ mc) (hs : slots + 6 ≤ ms) :
    W p l e R s m args below meth c H locs cells slots (vx_MQ below Qc XC args s mc ms free) (F0 m pc ls rest) := by
  intro T hT X
  have htr : e.platform.stackTraces = false := (show e.platform.stackTraces = l.stackTraces by rw [X.admits.platform]).trans hl
  have Y := vx_rebase X (R' := { frames := R.frames, locals := R.locals, cells := 1, slots := 6 }) (Nat.le_refl _) (Nat.le_refl _) hRcells hRslots
  obtain ⟨s', hA⟩ : ∃ z, z = (T.setVm s.vm).setFrames (.invoking m args :: below) := ⟨_, rfl⟩
  rw [← hA] at Y
  have hvm : s'.vm = s.vm := by rw [hA]; rfl
  have hhp : s'.heap = H := by rw [hA]; exact hT
  have hW0 : s.WarmedH s'.vm := by rw [hvm]; exact State.WarmedH.refl s
  have hat' : ∀ w ∈ vx_atS own ic cls names, w.before args s' = true := fun w hw => vx_ot_at hW0 hvm.symm (hgood w (List.mem_cons_of_mem _ (List.mem_cons_of_mem _ hw))) (hat w hw)
  have hk' : (Cond.classLink own ik cls).before args s' = true := vx_ot_at hW0 hvm.symm (hgood _ List.mem_cons_self) hk
  have hini' : (Cond.initialized cls).before args s' = true := vx_ot_at hW0 hvm.symm (hgood _ (List.mem_cons_of_mem _ List.mem_cons_self)) hini
  have hU' : vx_Zq Bundle.tN "UNASSIGNED_STACK" Bundle.steD A s' s'.heap := by rw [hhp]; exact vx_Zq.moved hW0.alike (hU.kept hS.2.1)
  have hN' : vx_Zq Bundle.tN "SUPPRESSED_SENTINEL" Bundle.listD A s' s'.heap := by rw [hhp]; exact vx_Zq.moved hW0.alike (hN.kept hS.2.1)
  have h : ∀ w ∈ Bundle.ownAtoms own ic cls names, w.before args s' = true := vx_own hat' (vx_isRefq hU'.1) (vx_isRefq hN'.1) hU'.2.word hN'.2.word
  have hown' : s'.vm.findClass own = some m.cls := by rw [hvm]; exact hown
  have hins : (Cond.instantiable cls 6).before args s' = true := h _ (by simp [Bundle.ownAtoms])
  obtain ⟨vm₁, cX, kX, hfX, hkX, -, -, X₁, st1⟩ := Y.newCold hexec (own := own) (C := cls) (index := ik) (n := 6) hown' hk' hins hini'
    (g := F0 m pc ls rest) rfl (by rw [hb]; exact d0) (Nat.le_refl _) (Nat.le_refl _)
  generalize hT1 : (T.setVm vm₁).pushCell { cls := cX, slots := kX.instanceTypes.map defaultValue, vm := .none } = T1 at X₁ st1
  have hcat : (Value.ref T.heap.size).category = 1 := rfl
  have hcellA : T1.heap[T.heap.size]? = some (freshCell cX kX) := by rw [← hT1]; exact State.heap_pushCell_size _ _
  have d3' : decode c.code (pc + 3) = .ok (.dup, 1) := by rw [hb]; exact d3
  have d4' : decode c.code (pc + 4) = .ok (.ldc_w is, 3) := by rw [hb]; exact d4
  have hstr' : vk_R own is text sa s' := vk_R.warm hW0 hstr
  obtain ⟨U, hsteps, hrun, hend, hW, hsame, ce, hce, hO⟩ := X₁.ctorThrowS hexec htr (own := own) (cls := cls) (names := names) (ic := ic) hown' hcls hnames h (fun x hx => nomatch hx) hfX hkX hcellA (by rw [hhp, hT]; exact Nat.le_refl _) (msg := .ref sa) rfl
    (g := { method := m, pc := pc + 7, locals := ls, stack := .ref sa :: .ref T.heap.size :: .ref T.heap.size :: rest, locked := none }) rfl hsize rfl rfl (rest := rest) rfl
    (by rw [hb]; exact d7) (by rw [hb]; exact d10) hout hRframes (by simp only [List.map_cons, List.sum_cons, hcat]; omega) hlocks
  obtain ⟨f1, f2⟩ := vx_frame hsame
  rw [hhp] at f1 f2
  have hWs : s.WarmedH U.vm := State.WarmedH.trans hW0 hW
  have hcl : s.vm.findClass cls = some ce.cls := by
    have h9 := hO.cls
    rw [hvm] at h9
    exact h9
  have hall : s.sameButNew ({ U with vm := s.vm } : State) locs mc ms := by
    subst hA
    obtain ⟨e1, e2⟩ := hsame
    rw [State.setFrames_setFrames] at e1
    have h2 : (T.setVm s.vm).sameButNew ({ U with vm := s.vm } : State) [] (0 + 1) (0 + 6) := ⟨e1, e2⟩
    have h3 := X.same.trans h2
    rw [List.append_nil] at h3
    exact h3.mono hc hs
  refine ⟨U, ?_, .threw T.heap.size, hrun, hend, Or.inr ⟨T.heap.size, rfl, cls, ce, locs, hx U hWs.alike f1 (fun q hq => f2 q hq (fun z hz => nomatch hz)), hce, hO.vm, hcl, hWs, hall, hf⟩⟩
  refine st1 _ ?_
  show Steps p.tables e below (T1.setTop { method := m, pc := pc + 3, locals := ls, stack := .ref T.heap.size :: rest, locked := none }) _
  jvm_step X₁.here [X₁.here.top, hexec, d3', Value.category]
  exact X₁.ldcStringW hexec (own := own) (text := text) (index := is) (a := sa) hown' hstr'.1 hstr'.2
    (g := { method := m, pc := pc + 4, locals := ls, stack := .ref T.heap.size :: .ref T.heap.size :: rest, locked := none }) rfl d4' _ hsteps
end Ends
section Bodies
variable {l : Launch}
theorem vx_ofW {y : MethodName} {ws ws' : List Cond} {rm : Room} {Pc : Array Value → State → Prop} {Qc : Array Value → State → Outcome → State → Prop} {XC : String → State → State → Prop} {mc ms : Nat} {free : Addr → Prop} {cc : ByteArray} {maxL : Nat} {ret : Option FieldType}
    (hy : plainName y.cls = true) (hw : ws = Cond.code y cc maxL ret :: ws')
    (body : ∀ p e s m args below meth c s₁, BodyLoose p l y (headSpec ws rm) cc maxL ret e s m args below meth c s₁ → c.maxLocals = maxL → (∀ x ∈ c.exceptionTable.toList, False) → Pc args s →
      W p l e (headSpec ws rm).room s m args below meth c s.heap [] 0 0 (vx_MQ below Qc XC args s mc ms free) (entryFrame m args maxL)) : vx_Met l y ws rm Pc Qc XC mc ms free := by
  refine MetFree.of_bodyS (code := cc) (maxLocals := maxL) (ret := ret) hy ?_ ?_
  · intro args s m h hn
    obtain ⟨meth, c, h1, h2, h3, h4, h5, h6, -, -⟩ := Cond.code_spec hn (atoms_spec (ws := ws) h _ (by rw [hw]; exact List.mem_cons_self))
    exact ⟨meth, c, h1, h2, h3, h4, h5, h6⟩
  · intro p e s m args below meth c s₁ B hml hP _
    have hh0 : s₁.heap = s.heap := by rw [B.state]; rfl
    have ht : ∀ x ∈ c.exceptionTable.toList, False := by
      obtain ⟨meth9, c9, h1, h2, -, -, -, -, h7, -⟩ := Cond.code_spec B.named (atoms_spec (ws := ws) B.pre _ (by rw [hw]; exact List.mem_cons_self))
      cases Option.some.inj (h1.symm.trans B.method)
      cases Option.some.inj (h2.symm.trans (Stand.of_body B).code)
      intro x hx
      rw [Array.isEmpty_iff.mp h7] at hx
      cases hx
    obtain ⟨t, a1, o, b1, b2, b3⟩ := body p e s m args below meth c s₁ B hml ht hP s₁ hh0 (Stand.of_body B)
    exact ⟨t, o, a1, b1, b2, b3⟩
/-- the table of a body with handlers -/
theorem vx_table {p : Program} {x y : MethodName} {S : Spec} {cc bytes : ByteArray} {maxL maxL' : Nat} {ret ret' : Option FieldType} {e : Env} {s s₁ : State} {m : MethodId} {args : Array Value} {below : List Frame} {meth : Method} {c : Code} {hh : List (Nat × Nat × Nat × Nat)}
    (B : BodyLoose p l y S cc maxL ret e s m args below meth c s₁) (h : (Cond.codeWith y bytes maxL' ret' hh).before args s = true) : c.exceptionTable.toList = tableOf hh := by
  obtain ⟨m9, meth9, c9, hn9, h1, h2, -, -, h6, -⟩ := Cond.codeWith_spec h
  cases Option.some.inj (hn9.symm.trans B.named)
  cases Option.some.inj (h1.symm.trans B.method)
  cases Option.some.inj (h2.symm.trans (Stand.of_body B).code)
  rw [← h6, table_eq]
end Bodies
end VXA
/-! ===== END ===== -/
/-! ===== BEGIN a static call of a method with an exception table ===== -/
section VXS
variable {p : Program} {l : Launch} {e : Env} {R : Room} {s : State} {m : MethodId} {args : Array Value} {below : List Frame} {meth : Method} {c : Code} {T : State} {H : Heap} {locs : List Loc} {cells slots : Nat}
abbrev vx_CSW (R : Room) (s : State) (args : Array Value) (own : String) (index : Nat) (y : MethodName) (bytes : ByteArray) (maxL : Nat) (ret : Option FieldType) (hh : List (Nat × Nat × Nat × Nat)) (ws : List Cond) (rm : Room) (mc ms n : Nat) : Prop :=
  (rm.cells = mc ∧ rm.slots = ms ∧ rm.frames + 1 ≤ R.frames ∧ 8 + (maxL + 11) + rm.locals ≤ R.locals ∧ (∀ w ∈ ws, ∀ (a' : Array Value) (U : State), s.WarmedH U.vm → w.before a' U = true) ∧ Cond.codeWith y bytes maxL ret hh ∈ ws) ∧
  (Cond.codeWith y bytes maxL ret hh).before args s = true ∧ (Cond.initialized y.cls).before args s = true ∧ (y.cls ≠ "java/lang/invoke/MethodHandle" ∧ y.cls ≠ "java/lang/invoke/VarHandle") ∧
  (∀ sig, parseMethodDescriptor y.desc = some sig → n = sig.parameters.length) ∧ (Cond.methodLink own index y).before args s = true ∧ (Cond.static y).before args s = true
theorem vx_cwSW {own : String} {index maxL mc ms : Nat} {y : MethodName} {bytes : ByteArray} {ret : Option FieldType} {hh : List (Nat × Nat × Nat × Nat)} {Ts ws ws' : List Cond} {rm : Room} (n : Nat) (ht : ∀ w ∈ Ts, w.before args s = true) (hT : GoodIn Ts (va_wsS own index y ws)) (hw : ws = Cond.codeWith y bytes maxL ret hh :: ws') (hrc : rm.cells = mc) (hrs : rm.slots = ms)
    (hd : y.cls ≠ "java/lang/invoke/MethodHandle" ∧ y.cls ≠ "java/lang/invoke/VarHandle" ∧ (parseMethodDescriptor y.desc).map (fun d => d.parameters.length) = some n) (hR : rm.frames + 1 ≤ R.frames ∧ 8 + (maxL + 11) + rm.locals ≤ R.locals) :
    vx_CSW R s args own index y bytes maxL ret hh ws rm mc ms n := by
  have ok : ∀ w ∈ va_wsS own index y ws, w.before args s = true := fun w h => ht w (hT w h).1
  have hG : GoodIn Ts ws := fun w h => hT w (by unfold va_wsS; exact List.mem_append_right _ h)
  have hc : Cond.codeWith y bytes maxL ret hh ∈ ws := by rw [hw]; exact List.mem_cons_self
  refine ⟨⟨hrc, hrs, hR.1, hR.2, pay_in ht hG, hc⟩, ht _ (hG _ hc).1, ok _ (by simp [va_wsS]), ⟨hd.1, hd.2.1⟩, fun sig h => ?_, ok _ (by simp [va_wsS]), ok _ (by simp [va_wsS])⟩
  have h2 := hd.2.2
  rw [h] at h2
  exact (Option.some.inj h2).symm
theorem vx_callSW (X : Stand p l e R s m args below meth c T locs cells slots) (hexec : p.tables.exec = Jvm.exec) {own : String} {index : Nat} {y : MethodName} {bytes : ByteArray} {maxL : Nat} {ret : Option FieldType} {hh : List (Nat × Nat × Nat × Nat)}
    (hown : s.vm.findClass own = some m.cls) (hlink : (Cond.methodLink own index y).before args s = true) (hstat : (Cond.static y).before args s = true) (hinit : (Cond.initialized y.cls).before args s = true)
    (hcode : (Cond.codeWith y bytes maxL ret hh).before args s = true) (hy : y.cls ≠ "java/lang/invoke/MethodHandle" ∧ y.cls ≠ "java/lang/invoke/VarHandle")
    {W9 : Nat} {Pre : Pt → Array Value → Prop} {Post : Pt → Array Value → Option Value → Pt → Prop} (hK : Back l R p e below s args y 3 W9 Pre Post)
    {g : JFrame} (hg : g.method = m) (hsize : g.locals.size = c.maxLocals) {argsL rest : List Value} (hlen : ∀ sig, parseMethodDescriptor y.desc = some sig → argsL.length = sig.parameters.length)
    (hstack : g.stack = argsL.reverse ++ rest) (hW : 2 * g.monitorRoom + (rest.map fun v => v.category).sum ≤ W9) (hdg : decode c.code g.pc = .ok (.invokestatic index, 3))
    (hpre : ∀ vm₁, s.WarmedH vm₁ → Pre ⟨T.setVm vm₁, locs, cells, slots⟩ argsL.toArray) :
    ∃ (v : Option Value) (vm₁ : Vm) (B : Pt), s.WarmedH vm₁ ∧ Stand p l e R s m args below meth c B.U B.locs B.cells B.slots ∧ Post ⟨T.setVm vm₁, locs, cells, slots⟩ argsL.toArray v B ∧
      ∀ target, Steps p.tables e below (B.U.setTop { g with pc := g.pc + 3, stack := v.toList ++ rest }) target → Steps p.tables e below (T.setTop g) target := by
  obtain ⟨mk, methM, cM, hnamed, hmethM, -, -, -, -, -, -, hsigM⟩ := Cond.codeWith_spec hcode
  have hstatic : methM.isStatic = true := Cond.static_spec hnamed hmethM hstat
  obtain ⟨kP, hkP, -⟩ := className_of_methodNamed hnamed
  have hinitP : kP.init = .initialized := Cond.initialized_spec (findClass_of_methodNamed hnamed) hkP hinit
  obtain ⟨vm₁, X₁, hstep₁⟩ := X.invokestatic hexec hown hlink hnamed hmethM hstatic hkP hinitP hy (g := g) hg (argsL := argsL) (rest := rest) (hlen _ hsigM) hstack hdg
  obtain ⟨v, B, X', hpost, hsteps⟩ := hK m meth c ⟨T.setVm vm₁, locs, cells, slots⟩ { g with stack := rest } (.invokestatic index) mk argsL.toArray X₁ hg hsize hdg hW (X₁.named hnamed) (hpre vm₁ X₁.warmed)
  exact ⟨v, vm₁, B, X₁.warmed, X', hpost, fun target h => hstep₁ _ fun acts => by rw [doInvoke_state]; exact hsteps.trans h⟩
theorem vx_runSW {y : MethodName} {bytes cc : ByteArray} {maxL nL mc ms n index : Nat} {ret : Option FieldType} {hh : List (Nat × Nat × Nat × Nat)} {ws : List Cond} {rm : Room} {Pc : Array Value → State → Prop} {Qc : Array Value → State → Outcome → State → Prop} {free : Addr → Prop} {Ts : List Cond} {own : String} {As rest : List Value} {g : JFrame}
    (S : CallFix p m c cc nL s args Ts own) (hM : Met l y ws rm Pc Qc mc ms free) (cw : vx_CSW R s args own index y bytes maxL ret hh ws rm mc ms n) (hp : PreS s H Pc As)
    (hg : g.method = m) (hn : As.length = n) (hsize : g.locals.size = nL) (hstack : g.stack = As.reverse ++ rest) (hW : 2 * g.monitorRoom + (rest.map fun v => v.category).sum ≤ 8) (hdg : decode cc g.pc = .ok (.invokestatic index, 3)) (hf : cells + mc ≤ R.cells ∧ slots + ms ≤ R.slots) :
    va_Run p l e R s m args below meth c H locs cells slots mc ms g rest (Qc As.toArray) (free) := by
  obtain ⟨⟨hrc, hrs, hfr, hlo, hws, hcw⟩, hcode, hini, hy, hlen, hl, hstt⟩ := cw
  have hK : Back l R p e below s args y 3 8 (PreOf R mc ms Pc) (PostOf Qc mc ms free) := va_backW (hh := hh) (bytes := bytes) (maxL := maxL) (ret := ret) hM hp.1 hrc hrs hfr hlo hws hcw (fun a' U hW => word_at hW (Or.inl (by first | rfl | simp [Cond.onTables, Cond.keeps, Cond.steady])) hini)
  obtain ⟨hx, hb, hml, ho, -⟩ := S
  intro T hT X
  obtain ⟨v, vm₁, ⟨U', l2, c2, s2⟩, hW₁, X', ⟨g', mk, t, L, e1, e2, hq, h1, hL, h2, h3⟩, st⟩ := vx_callSW X hx (hh := hh) (bytes := bytes) (maxL := maxL) (ret := ret) ho hl hstt hini hcode hy hK hg (hsize.trans hml.symm) (argsL := As) (rest := rest) (fun sig h => hn.trans (hlen sig h)) hstack hW (by rw [hb]; exact hdg)
    (fun vm₁ hW₁ => ⟨hf.1, hf.2, hp.2 (T.setVm vm₁) hT hW₁⟩)
  dsimp only [Pt.U, Pt.locs, Pt.cells, Pt.slots] at X' e1 e2 h1 h2 h3 st
  subst h1; subst h2; subst h3
  exact ⟨v, (T.setVm vm₁).calling g' mk As.toArray, t, U', L, hT, X', hL, e1, e2, hq, st⟩
/-- not caught here, past rows that name other classes: it goes on to the caller -/
theorem vx_outP {p : Program} {l : Launch} {e : Env} {R : Room} {s : State} {m : MethodId} {args : Array Value} {below : List Frame} {meth : Method} {c : Code} {H : Heap} {locs : List Loc} {cells slots : Nat} {free : Addr → Prop} {ls : Array Slot} {rest : List Value} {Qc : Array Value → State → Outcome → State → Prop} {XC : String → State → State → Prop}
    {pc : Nat} {own E : String} {ce : Cell} {q : Addr} {mc ms : Nat} (hown : s.vm.findClass own = some m.cls) (hlocks : meth.locks = false)
    (hpass : ∀ z ∈ c.exceptionTable.toList, covers z pc = false ∨ (z.catchType ≠ 0 ∧ ∃ nm : String, (Cond.classLink own z.catchType nm).before args s = true ∧ va_Nc E nm s)) (hcell : H[q]? = some ce) (hv : ce.vm = .none) (hcl : s.vm.findClass E = some ce.cls)
    (hx : ∀ t : State, t.heap = H → s.vm.Alike t.vm → XC E s t) (hf : ∀ z ∈ locs, free z.base) (hc : cells ≤ mc) (hs : slots ≤ ms) :
    vx_W p l e R s m args below meth c H locs cells slots (vx_MQ below Qc XC args s mc ms free) (F0 m pc ls rest) q := by
  intro T hT X
  have hpl : e.platform.magicAccessors = ({} : Platform).magicAccessors := by rw [X.admits.platform]
  obtain ⟨vm', hW', X', st⟩ := X.outThrough hlocks q (g := F0 m pc ls rest) rfl rfl rfl (cell := ce) (by rw [hT]; exact hcell) (by rw [hv]; rfl)
    (by obtain ⟨k9, h9, -⟩ := Vm.findClass_spec hcl; exact ⟨k9, h9⟩) (fun z hz => by
      rcases hpass z hz with h | ⟨hz0, nm, hl1, hn1⟩
      · exact Or.inl h
      · obtain ⟨c6, hc6, hcl6⟩ := Cond.classLink_spec hown hl1 e.platform hpl
        obtain ⟨a8, b8, h1, h2, h3⟩ := hn1
        cases Option.some.inj (h1.symm.trans hcl)
        cases Option.some.inj (h2.symm.trans hc6)
        exact Or.inr ⟨hz0, _, hcl6, h3⟩)
  obtain ⟨g₀, hfr⟩ := X'.frames_eq
  have hcell9 : ((T.setVm vm').setFrames (.throwing q :: below)).heap[q]? = some ce := by
    show T.heap[q]? = some ce
    rw [hT]; exact hcell
  have hend : Ended ((T.setVm vm').setFrames (.throwing q :: below)) below (.threw q) := State.frames_setFrames _ (State.cur_lt_of_frames hfr)
  refine ⟨(T.setVm vm').setFrames (.throwing q :: below), ?_, .threw q, X'.here.running, hend, Or.inr ⟨q, rfl, E, ce, locs, hx _ hT (X'.ends _).1.alike, hcell9, hv, hcl, (X'.ends _).1, (X'.ends _).2.mono hc hs, hf⟩⟩
  rw [X.pushThrowing_eq]
  exact st
/-- a thing of a world lies in the heap -/
theorem vx_lt {D : va_G} {cl : List vw_C} {ws : va_W} {H1 : Heap} (h : va_P D cl ws H1) {k : Nat} {q : Nat × va_E} (hk : ws[k]? = some q) : q.1 < H1.size := (h k q hk).lt
end VXS
/-! ===== END ===== -/
/-! ===== BEGIN methods with a table of their own: called by a name, returning or throwing ===== -/
section VXH
/-! vx_backW, vx_callVX, vx_callSX, vx_callVW, vx_runVW, vx_runVX, vx_runSX, vx_ofWH follow the same proofs as their sisters above (Free/Laws.lean, Shelf42/LK1.lean); vx_outP calls Shelf42/NT130.lean (outThrough). -/
section
variable {l : Launch} {R : Room} {p : Program} {e : Env} {below : List Frame} {s : State} {sargs : Array Value} {y : MethodName} {len W9 : Nat}
theorem vx_backW {ws : List Cond} {rm : Room} {Pc : Array Value → State → Prop} {Qc : Array Value → State → Outcome → State → Prop} {XC : String → State → State → Prop} {mc ms : Nat} {free : Addr → Prop} {bytes : ByteArray} {maxL : Nat} {ret : Option FieldType} {hh : List (Nat × Nat × Nat × Nat)}
    (hM : vx_Met l y ws rm Pc Qc XC mc ms free) (hblind : FrameBlind Pc) (hrc : rm.cells = mc) (hrs : rm.slots = ms)
    (hframes : rm.frames + 1 ≤ R.frames) (hlocals : W9 + (maxL + 11) + rm.locals ≤ R.locals)
    (hws : ∀ w ∈ ws, ∀ a' U, s.WarmedH U.vm → w.before a' U = true) (hcode : Cond.codeWith y bytes maxL ret hh ∈ ws) (hinit : ∀ a' U, s.WarmedH U.vm → (Cond.initialized y.cls).before a' U = true) :
    vx_Back l R p e below s sargs y len W9 (PreOf R mc ms Pc) (PostOf Qc mc ms free) (vx_Post XC mc ms free) := by
  intro m meth c A g ig mk a X hg hsize hdg hW hn hp
  have h1 : (headSpec ws rm).pre.before a A.U = true := atoms_intro fun w hw => hws w hw _ _ X.warmed
  have h2 : (Cond.codeWith y bytes maxL ret hh).before a A.U = true := hws _ hcode _ _ X.warmed
  have h3 : (Cond.initialized y.cls).before a A.U = true := hinit _ _ X.warmed
  have h4 : A.cells + (headSpec ws rm).room.cells ≤ R.cells := by rw [show (headSpec ws rm).room.cells = mc from hrc]; exact hp.1
  have h5 : A.slots + (headSpec ws rm).room.slots ≤ R.slots := by rw [show (headSpec ws rm).room.slots = ms from hrs]; exact hp.2.1
  have hPc : Pc a (A.U.calling g mk a) := hblind _ _ _ _ hp.2.2
  obtain ⟨U, Ls, c0, s0⟩ := A
  dsimp only [Pt.U, Pt.locs, Pt.cells, Pt.slots] at h1 h2 h3 h4 h5 X hn hPc ⊢
  obtain ⟨m9, methY, cY, hn9, hmY, hcY, -, hlY, -⟩ := Cond.codeWith_spec h2
  cases Option.some.inj (hn9.symm.trans hn)
  obtain ⟨kY, hkY, -⟩ := className_of_methodNamed hn
  have hinitY : kY.init = .initialized := Cond.initialized_spec (findClass_of_methodNamed hn) hkY h3
  have h : At U g.method c below := by rw [hg]; exact X.here
  have hlocals9 : W9 + (maxL + 11) + (headSpec ws rm).room.locals ≤ R.locals := hlocals
  have happ : (headSpec ws rm).appliesLoose y e.platform (U.calling g mk a) = true :=
    Spec.appliesLoose_calling (g := g) h hdg hn hkY hinitY
      (X.room_calling (g := g) (R' := (headSpec ws rm).room) hsize hmY hcY hframes (by rw [hlY]; omega) h4 h5) h1
  obtain ⟨mid, hmid⟩ := h.above
  have hfr : (U.setTop g).frames = (.java g :: mid) ++ below := by rw [State.frames_setTop' g h.top, hmid]; rfl
  obtain ⟨o, s₂, hsteps, -, hend, hq⟩ := Steps.callFree hM p X.admits X.cas X.clock (acts := []) hfr happ hPc trivial
  have hq' : vx_Q Qc XC mc ms free a (U.calling g mk a) o s₂ := hq
  rw [State.frames_setTop' g h.top] at hend
  obtain ⟨g₀, hg0⟩ := Option.isSome_iff_exists.mp h.top
  obtain ⟨r, hr⟩ := State.topJava?_eq_some.mp hg0
  have hr' : (({ U with heap := s₂.heap, slotsUsed := s₂.slotsUsed } : State).setVm s₂.vm).frames = .java g₀ :: r := hr
  rcases hq' with ⟨hqc, L, hfe, hL⟩ | ⟨q, rfl, E, ce, L, hx, hce, hcv, hcl, hW₂, hsm, hL⟩
  · obtain ⟨⟨v, rfl⟩, hW₂, e2, q2, q3, q4, q5, q6⟩ := id hfe
    have e3 : s₂ = ({ (U.calling g mk a).setFrames s₂.frames with heap := s₂.heap, slotsUsed := s₂.slotsUsed } : State).setVm s₂.vm := by
      have : s₂ = ({ s₂ with vm := (U.calling g mk a).vm } : State).setVm s₂.vm := rfl
      rw [e2] at this
      exact this
    obtain ⟨c₂, i₂, len₂, hc₂, hd₂, hf₂⟩ := hend
    have hW' : U.WarmedH s₂.vm := hW₂
    have hcc : c₂ = c := by
      have h1 : s₂.code? g.method = U.code? g.method := by
        rw [State.code?_eq, State.code?_eq, hW'.alike.method?]
      exact Option.some.inj (hc₂.symm.trans (h1.trans h.code))
    subst hcc
    have hlen : len₂ = len := by rw [hdg] at hd₂; cases hd₂; rfl
    subst hlen
    have hs₂ : s₂ = (({ U with heap := s₂.heap, slotsUsed := s₂.slotsUsed } : State).setVm s₂.vm).setTop { g with pc := g.pc + len₂, stack := v.toList ++ g.stack } := by
      refine e3.trans ?_
      rw [hf₂, State.calling_eq h.top, State.setFrames_setFrames, State.setTop_of_frames _ hr', hr]
      rfl
    have hsame : U.sameButNew ({ U with heap := s₂.heap, slotsUsed := s₂.slotsUsed } : State) L mc ms := by
      refine ⟨?_, q2, q3, q4, q5, q6⟩
      obtain ⟨t, ht, -⟩ := State.frames_cons hr
      show ({ U with heap := s₂.heap, slotsUsed := s₂.slotsUsed } : State) = { U.setFrames U.frames with heap := s₂.heap, slotsUsed := s₂.slotsUsed }
      rw [State.setFrames_self ht]
    subst hg
    refine Or.inl ⟨v, ⟨(({ U with heap := s₂.heap, slotsUsed := s₂.slotsUsed } : State).setVm s₂.vm), Ls ++ L, c0 + mc, s0 + ms⟩,
      ⟨X.admits, X.cas, X.clock, X.frames, X.room, X.hears, X.method, X.code, (X.here.setHeapUsed s₂.heap s₂.slotsUsed).setVm hW'.alike, X.tail, State.WarmedH.trans X.warmed hW', X.limits, X.bytes, X.same.trans (hsame.setVm s.vm)⟩,
      ⟨g, mk, s₂, L, rfl, rfl, hqc, rfl, hL, rfl, rfl⟩, ?_⟩
    show Steps p.tables e below _ ((({ U with heap := s₂.heap, slotsUsed := s₂.slotsUsed } : State).setVm s₂.vm).setTop { g with pc := g.pc + len₂, stack := v.toList ++ g.stack })
    rw [← hs₂]
    exact hsteps
  · obtain ⟨e2, q2, q3, q4, q5, q6⟩ := id hsm
    have e3 : s₂ = ({ (U.calling g mk a).setFrames s₂.frames with heap := s₂.heap, slotsUsed := s₂.slotsUsed } : State).setVm s₂.vm := by
      have : s₂ = ({ s₂ with vm := (U.calling g mk a).vm } : State).setVm s₂.vm := rfl
      rw [e2] at this
      exact this
    have hf₂ : s₂.frames = .throwing q :: .java g :: U.frames.tail := hend
    have hW' : U.WarmedH s₂.vm := hW₂
    have hs₂ : s₂ = ((({ U with heap := s₂.heap, slotsUsed := s₂.slotsUsed } : State).setVm s₂.vm).setTop g).pushFrame (.throwing q) := by
      refine e3.trans ?_
      rw [hf₂, State.calling_eq h.top, State.setFrames_setFrames, State.pushFrame, State.frames_setTop _ hr', State.setTop_of_frames _ hr', State.setFrames_setFrames, hr]
      rfl
    have hsame : U.sameButNew ({ U with heap := s₂.heap, slotsUsed := s₂.slotsUsed } : State) L mc ms := by
      refine ⟨?_, q2, q3, q4, q5, q6⟩
      obtain ⟨t, ht, -⟩ := State.frames_cons hr
      show ({ U with heap := s₂.heap, slotsUsed := s₂.slotsUsed } : State) = { U.setFrames U.frames with heap := s₂.heap, slotsUsed := s₂.slotsUsed }
      rw [State.setFrames_self ht]
    subst hg
    refine Or.inr ⟨q, ⟨(({ U with heap := s₂.heap, slotsUsed := s₂.slotsUsed } : State).setVm s₂.vm), Ls ++ L, c0 + mc, s0 + ms⟩,
      ⟨X.admits, X.cas, X.clock, X.frames, X.room, X.hears, X.method, X.code, (X.here.setHeapUsed s₂.heap s₂.slotsUsed).setVm hW'.alike, X.tail, State.WarmedH.trans X.warmed hW', X.limits, X.bytes, X.same.trans (hsame.setVm s.vm)⟩,
      ⟨g, mk, s₂, L, E, ce, rfl, rfl, hx, hce, hcv, hcl, rfl, hL, rfl, rfl⟩, ?_⟩
    show Steps p.tables e below _ (((({ U with heap := s₂.heap, slotsUsed := s₂.slotsUsed } : State).setVm s₂.vm).setTop g).pushFrame (.throwing q))
    rw [← hs₂]
    exact hsteps
end
variable {p : Program} {l : Launch} {e : Env} {R : Room} {s : State} {m : MethodId} {args : Array Value} {below : List Frame} {meth : Method} {c : Code} {T : State} {H : Heap} {locs : List Loc} {cells slots : Nat}
theorem vx_callVX (X : Stand p l e R s m args below meth c T locs cells slots) (hexec : p.tables.exec = Jvm.exec) {own C : String} {index : Nat} {y : MethodName} {bytes : ByteArray} {maxL : Nat} {ret : Option FieldType} {hh : List (Nat × Nat × Nat × Nat)}
    (hown : s.vm.findClass own = some m.cls) (hlink : (Cond.methodLink own index y).before args s = true) (hinst : (Cond.instanceMethod y).before args s = true) (hsel : (Cond.selects C y y).before args s = true)
    (hcode : (Cond.codeWith y bytes maxL ret hh).before args s = true) (hy : y.cls ≠ "java/lang/invoke/MethodHandle" ∧ y.cls ≠ "java/lang/invoke/VarHandle")
    {W9 : Nat} {Pre : Pt → Array Value → Prop} {Post : Pt → Array Value → Option Value → Pt → Prop} {PostX : Pt → Array Value → Addr → Pt → Prop} (hK : vx_Back l R p e below s args y 3 W9 Pre Post PostX)
    {b : Addr} {cellB : Cell} (hcell : T.heap[b]? = some cellB) (hobj : cellB.vm.isStatics = false) (hcls : s.vm.findClass C = some cellB.cls)
    {g : JFrame} (hg : g.method = m) (hsize : g.locals.size = c.maxLocals) {argsL rest : List Value} (hlen : ∀ sig, parseMethodDescriptor y.desc = some sig → argsL.length = sig.parameters.length)
    (hstack : g.stack = argsL.reverse ++ .ref b :: rest) (hW : 2 * g.monitorRoom + (rest.map fun v => v.category).sum ≤ W9) (hdg : decode c.code g.pc = .ok (.invokevirtual index, 3))
    (hpre : ∀ vm₁, s.WarmedH vm₁ → Pre ⟨T.setVm vm₁, locs, cells, slots⟩ (Value.ref b :: argsL).toArray) :
    (∃ (v : Option Value) (vm₁ : Vm) (B : Pt), s.WarmedH vm₁ ∧ Stand p l e R s m args below meth c B.U B.locs B.cells B.slots ∧ Post ⟨T.setVm vm₁, locs, cells, slots⟩ (Value.ref b :: argsL).toArray v B ∧
      ∀ target, Steps p.tables e below (B.U.setTop { g with pc := g.pc + 3, stack := v.toList ++ rest }) target → Steps p.tables e below (T.setTop g) target) ∨
    (∃ (q : Addr) (vm₁ : Vm) (B : Pt), s.WarmedH vm₁ ∧ Stand p l e R s m args below meth c B.U B.locs B.cells B.slots ∧ PostX ⟨T.setVm vm₁, locs, cells, slots⟩ (Value.ref b :: argsL).toArray q B ∧
      Steps p.tables e below (T.setTop g) ((B.U.setTop { g with stack := rest }).pushFrame (.throwing q))) := by
  obtain ⟨mk, methM, hnamed, hmethM, hstM, habM⟩ := Cond.instanceMethod_spec hinst
  obtain ⟨m8, methM', cM, hn8, hmethM', -, -, -, -, -, -, hsigM⟩ := Cond.codeWith_spec hcode
  cases Option.some.inj (hn8.symm.trans hnamed)
  cases hmethM.symm.trans hmethM'
  obtain ⟨c2, r2, m2, q1, q2, q3, q4, kP, hkP, hkPi⟩ := Cond.selects_spec hsel
  cases hcls.symm.trans q1
  cases (State.methodFound?_of_named hnamed hy).symm.trans q2
  cases hnamed.symm.trans q3
  have hselP : selectMethod e.platform s.vm cellB.cls mk = .method mk := by rw [Launch.admits_selectMethod X.admits]; exact q4
  obtain ⟨vm₁, X₁, hstep₁⟩ := X.invokevirtual hexec hown hlink hnamed hmethM hstM hkP hkPi hy (a := b) (cell := cellB) hcell
    (fun z h => by rw [h] at hobj; cases hobj) hselP hmethM habM hkP hkPi (g := g) hg (argsL := argsL) (rest := rest) (hlen _ hsigM) hstack hdg
  rcases hK m meth c ⟨T.setVm vm₁, locs, cells, slots⟩ { g with stack := rest } (.invokevirtual index) mk (Value.ref b :: argsL).toArray X₁ hg hsize hdg hW (X₁.named hnamed) (hpre vm₁ X₁.warmed) with ⟨v, B, X', hpost, hsteps⟩ | ⟨q, B, X', hpost, hsteps⟩
  · exact Or.inl ⟨v, vm₁, B, X₁.warmed, X', hpost, fun target h => hstep₁ _ fun acts => by rw [doInvoke_state]; exact hsteps.trans h⟩
  · exact Or.inr ⟨q, vm₁, B, X₁.warmed, X', hpost, hstep₁ _ fun acts => by rw [doInvoke_state]; exact hsteps⟩
theorem vx_callSX (X : Stand p l e R s m args below meth c T locs cells slots) (hexec : p.tables.exec = Jvm.exec) {own : String} {index : Nat} {y : MethodName} {bytes : ByteArray} {maxL : Nat} {ret : Option FieldType} {hh : List (Nat × Nat × Nat × Nat)}
    (hown : s.vm.findClass own = some m.cls) (hlink : (Cond.methodLink own index y).before args s = true) (hstat : (Cond.static y).before args s = true) (hinit : (Cond.initialized y.cls).before args s = true)
    (hcode : (Cond.codeWith y bytes maxL ret hh).before args s = true) (hy : y.cls ≠ "java/lang/invoke/MethodHandle" ∧ y.cls ≠ "java/lang/invoke/VarHandle")
    {W9 : Nat} {Pre : Pt → Array Value → Prop} {Post : Pt → Array Value → Option Value → Pt → Prop} {PostX : Pt → Array Value → Addr → Pt → Prop} (hK : vx_Back l R p e below s args y 3 W9 Pre Post PostX)
    {g : JFrame} (hg : g.method = m) (hsize : g.locals.size = c.maxLocals) {argsL rest : List Value} (hlen : ∀ sig, parseMethodDescriptor y.desc = some sig → argsL.length = sig.parameters.length)
    (hstack : g.stack = argsL.reverse ++ rest) (hW : 2 * g.monitorRoom + (rest.map fun v => v.category).sum ≤ W9) (hdg : decode c.code g.pc = .ok (.invokestatic index, 3))
    (hpre : ∀ vm₁, s.WarmedH vm₁ → Pre ⟨T.setVm vm₁, locs, cells, slots⟩ argsL.toArray) :
    (∃ (v : Option Value) (vm₁ : Vm) (B : Pt), s.WarmedH vm₁ ∧ Stand p l e R s m args below meth c B.U B.locs B.cells B.slots ∧ Post ⟨T.setVm vm₁, locs, cells, slots⟩ argsL.toArray v B ∧
      ∀ target, Steps p.tables e below (B.U.setTop { g with pc := g.pc + 3, stack := v.toList ++ rest }) target → Steps p.tables e below (T.setTop g) target) ∨
    (∃ (q : Addr) (vm₁ : Vm) (B : Pt), s.WarmedH vm₁ ∧ Stand p l e R s m args below meth c B.U B.locs B.cells B.slots ∧ PostX ⟨T.setVm vm₁, locs, cells, slots⟩ argsL.toArray q B ∧
      Steps p.tables e below (T.setTop g) ((B.U.setTop { g with stack := rest }).pushFrame (.throwing q))) := by
  obtain ⟨mk, methM, cM, hnamed, hmethM, -, -, -, -, -, -, hsigM⟩ := Cond.codeWith_spec hcode
  have hstatic : methM.isStatic = true := Cond.static_spec hnamed hmethM hstat
  obtain ⟨kP, hkP, -⟩ := className_of_methodNamed hnamed
  have hinitP : kP.init = .initialized := Cond.initialized_spec (findClass_of_methodNamed hnamed) hkP hinit
  obtain ⟨vm₁, X₁, hstep₁⟩ := X.invokestatic hexec hown hlink hnamed hmethM hstatic hkP hinitP hy (g := g) hg (argsL := argsL) (rest := rest) (hlen _ hsigM) hstack hdg
  rcases hK m meth c ⟨T.setVm vm₁, locs, cells, slots⟩ { g with stack := rest } (.invokestatic index) mk argsL.toArray X₁ hg hsize hdg hW (X₁.named hnamed) (hpre vm₁ X₁.warmed) with ⟨v, B, X', hpost, hsteps⟩ | ⟨q, B, X', hpost, hsteps⟩
  · exact Or.inl ⟨v, vm₁, B, X₁.warmed, X', hpost, fun target h => hstep₁ _ fun acts => by rw [doInvoke_state]; exact hsteps.trans h⟩
  · exact Or.inr ⟨q, vm₁, B, X₁.warmed, X', hpost, hstep₁ _ fun acts => by rw [doInvoke_state]; exact hsteps⟩
theorem vx_callVW (X : Stand p l e R s m args below meth c T locs cells slots) (hexec : p.tables.exec = Jvm.exec) {own C : String} {index : Nat} {y : MethodName} {bytes : ByteArray} {maxL : Nat} {ret : Option FieldType} {hh : List (Nat × Nat × Nat × Nat)}
    (hown : s.vm.findClass own = some m.cls) (hlink : (Cond.methodLink own index y).before args s = true) (hinst : (Cond.instanceMethod y).before args s = true) (hsel : (Cond.selects C y y).before args s = true)
    (hcode : (Cond.codeWith y bytes maxL ret hh).before args s = true) (hy : y.cls ≠ "java/lang/invoke/MethodHandle" ∧ y.cls ≠ "java/lang/invoke/VarHandle")
    {W9 : Nat} {Pre : Pt → Array Value → Prop} {Post : Pt → Array Value → Option Value → Pt → Prop} (hK : Back l R p e below s args y 3 W9 Pre Post)
    {b : Addr} {cellB : Cell} (hcell : T.heap[b]? = some cellB) (hobj : cellB.vm.isStatics = false) (hcls : s.vm.findClass C = some cellB.cls)
    {g : JFrame} (hg : g.method = m) (hsize : g.locals.size = c.maxLocals) {argsL rest : List Value} (hlen : ∀ sig, parseMethodDescriptor y.desc = some sig → argsL.length = sig.parameters.length)
    (hstack : g.stack = argsL.reverse ++ .ref b :: rest) (hW : 2 * g.monitorRoom + (rest.map fun v => v.category).sum ≤ W9) (hdg : decode c.code g.pc = .ok (.invokevirtual index, 3))
    (hpre : ∀ vm₁, s.WarmedH vm₁ → Pre ⟨T.setVm vm₁, locs, cells, slots⟩ (Value.ref b :: argsL).toArray) :
    ∃ (v : Option Value) (vm₁ : Vm) (B : Pt), s.WarmedH vm₁ ∧ Stand p l e R s m args below meth c B.U B.locs B.cells B.slots ∧ Post ⟨T.setVm vm₁, locs, cells, slots⟩ (Value.ref b :: argsL).toArray v B ∧
      ∀ target, Steps p.tables e below (B.U.setTop { g with pc := g.pc + 3, stack := v.toList ++ rest }) target → Steps p.tables e below (T.setTop g) target := by
  obtain ⟨mk, methM, hnamed, hmethM, hstM, habM⟩ := Cond.instanceMethod_spec hinst
  obtain ⟨m8, methM', cM, hn8, hmethM', -, -, -, -, -, -, hsigM⟩ := Cond.codeWith_spec hcode
  cases Option.some.inj (hn8.symm.trans hnamed)
  cases hmethM.symm.trans hmethM'
  obtain ⟨c2, r2, m2, q1, q2, q3, q4, kP, hkP, hkPi⟩ := Cond.selects_spec hsel
  cases hcls.symm.trans q1
  cases (State.methodFound?_of_named hnamed hy).symm.trans q2
  cases hnamed.symm.trans q3
  have hselP : selectMethod e.platform s.vm cellB.cls mk = .method mk := by rw [Launch.admits_selectMethod X.admits]; exact q4
  obtain ⟨vm₁, X₁, hstep₁⟩ := X.invokevirtual hexec hown hlink hnamed hmethM hstM hkP hkPi hy (a := b) (cell := cellB) hcell
    (fun z h => by rw [h] at hobj; cases hobj) hselP hmethM habM hkP hkPi (g := g) hg (argsL := argsL) (rest := rest) (hlen _ hsigM) hstack hdg
  obtain ⟨v, B, X', hpost, hsteps⟩ := hK m meth c ⟨T.setVm vm₁, locs, cells, slots⟩ { g with stack := rest } (.invokevirtual index) mk (Value.ref b :: argsL).toArray X₁ hg hsize hdg hW (X₁.named hnamed) (hpre vm₁ X₁.warmed)
  exact ⟨v, vm₁, B, X₁.warmed, X', hpost, fun target h => hstep₁ _ fun acts => by rw [doInvoke_state]; exact hsteps.trans h⟩
abbrev vx_CVW (R : Room) (s : State) (args : Array Value) (own C : String) (index : Nat) (y : MethodName) (bytes : ByteArray) (maxL : Nat) (ret : Option FieldType) (hh : List (Nat × Nat × Nat × Nat)) (ws : List Cond) (rm : Room) (mc ms n : Nat) : Prop :=
  (rm.cells = mc ∧ rm.slots = ms ∧ rm.frames + 1 ≤ R.frames ∧ 8 + (maxL + 11) + rm.locals ≤ R.locals ∧ (∀ w ∈ ws, ∀ (a' : Array Value) (U : State), s.WarmedH U.vm → w.before a' U = true) ∧ Cond.codeWith y bytes maxL ret hh ∈ ws) ∧
  (Cond.codeWith y bytes maxL ret hh).before args s = true ∧ (Cond.initialized y.cls).before args s = true ∧ (y.cls ≠ "java/lang/invoke/MethodHandle" ∧ y.cls ≠ "java/lang/invoke/VarHandle") ∧
  (∀ sig, parseMethodDescriptor y.desc = some sig → n = sig.parameters.length) ∧ (Cond.methodLink own index y).before args s = true ∧ (Cond.instanceMethod y).before args s = true ∧ (Cond.selects C y y).before args s = true
theorem vx_cwVW {own C : String} {index maxL mc ms : Nat} {y : MethodName} {bytes : ByteArray} {ret : Option FieldType} {hh : List (Nat × Nat × Nat × Nat)} {Ts ws ws' : List Cond} {rm : Room} (n : Nat) (ht : ∀ w ∈ Ts, w.before args s = true) (hT : GoodIn Ts (wsV own index C y ws)) (hw : ws = Cond.codeWith y bytes maxL ret hh :: ws') (hrc : rm.cells = mc) (hrs : rm.slots = ms)
    (hd : y.cls = C ∧ y.cls ≠ "java/lang/invoke/MethodHandle" ∧ y.cls ≠ "java/lang/invoke/VarHandle" ∧ (parseMethodDescriptor y.desc).map (fun d => d.parameters.length) = some n) (hR : rm.frames + 1 ≤ R.frames ∧ 8 + (maxL + 11) + rm.locals ≤ R.locals) :
    vx_CVW R s args own C index y bytes maxL ret hh ws rm mc ms n := by
  obtain ⟨hC, hd⟩ := hd
  subst hC
  have ok : ∀ w ∈ wsV own index y.cls y ws, w.before args s = true := fun w h => ht w (hT w h).1
  have hG : GoodIn Ts ws := fun w h => hT w (by unfold wsV; exact List.mem_append_right _ h)
  have hc : Cond.codeWith y bytes maxL ret hh ∈ ws := by rw [hw]; exact List.mem_cons_self
  refine ⟨⟨hrc, hrs, hR.1, hR.2, pay_in ht hG, hc⟩, ht _ (hG _ hc).1, ok _ (by simp [wsV]), ⟨hd.1, hd.2.1⟩, fun sig h => ?_, ok _ (by simp [wsV]), ok _ (by simp [wsV]), ok _ (by simp [wsV])⟩
  have h2 := hd.2.2
  rw [h] at h2
  exact (Option.some.inj h2).symm
theorem vx_runVW {y : MethodName} {bytes cc : ByteArray} {maxL nL mc ms n index : Nat} {ret : Option FieldType} {hh : List (Nat × Nat × Nat × Nat)} {ws : List Cond} {rm : Room} {Pc : Array Value → State → Prop} {Qc : Array Value → State → Outcome → State → Prop} {free : Addr → Prop} {Ts : List Cond} {own C : String} {b : Addr} {As rest : List Value} {g : JFrame}
    (S : CallFix p m c cc nL s args Ts own) (hM : Met l y ws rm Pc Qc mc ms free) (cw : vx_CVW R s args own C index y bytes maxL ret hh ws rm mc ms n) (hp : PreV s H C b Pc As)
    (hg : g.method = m) (hn : As.length = n) (hsize : g.locals.size = nL) (hstack : g.stack = As.reverse ++ .ref b :: rest) (hW : 2 * g.monitorRoom + (rest.map fun v => v.category).sum ≤ 8) (hdg : decode cc g.pc = .ok (.invokevirtual index, 3)) (hf : cells + mc ≤ R.cells ∧ slots + ms ≤ R.slots) :
    va_Run p l e R s m args below meth c H locs cells slots mc ms g rest (Qc (Value.ref b :: As).toArray) free := by
  obtain ⟨⟨hrc, hrs, hfr, hlo, hws, hcw⟩, hcode, hini, hy, hlen, hl, hin, hse⟩ := cw
  have hK : Back l R p e below s args y 3 8 (PreOf R mc ms Pc) (PostOf Qc mc ms free) := va_backW (hh := hh) (bytes := bytes) (maxL := maxL) (ret := ret) hM hp.1 hrc hrs hfr hlo hws hcw (fun a' U hW => word_at hW (Or.inl (by first | rfl | simp [Cond.onTables, Cond.keeps, Cond.steady])) hini)
  obtain ⟨hx, hb, hml, ho, -⟩ := S
  obtain ⟨-, ⟨cellB, hcB, hoB, hclB⟩, hPc⟩ := hp
  intro T hT X
  obtain ⟨v, vm₁, ⟨U', l2, c2, s2⟩, hW₁, X', ⟨g', mk, t, L, e1, e2, hq, h1, hL, h2, h3⟩, st⟩ := vx_callVW X hx (C := C) (hh := hh) (bytes := bytes) (maxL := maxL) (ret := ret) ho hl hin hse hcode hy hK (by rw [hT]; exact hcB) hoB hclB hg (hsize.trans hml.symm) (argsL := As) (rest := rest) (fun sig h => hn.trans (hlen sig h)) hstack hW (by rw [hb]; exact hdg)
    (fun vm₁ hW₁ => ⟨hf.1, hf.2, hPc (T.setVm vm₁) hT hW₁⟩)
  dsimp only [Pt.U, Pt.locs, Pt.cells, Pt.slots] at X' e1 e2 h1 h2 h3 st
  subst h1; subst h2; subst h3
  exact ⟨v, (T.setVm vm₁).calling g' mk (Value.ref b :: As).toArray, t, U', L, hT, X', hL, e1, e2, hq, st⟩
section
variable {y : MethodName} {bytes cc : ByteArray} {maxL nL mc ms n index : Nat} {ret : Option FieldType} {ws : List Cond} {rm : Room} {Pc : Array Value → State → Prop} {Qc : Array Value → State → Outcome → State → Prop} {XC : String → State → State → Prop} {free : Addr → Prop} {Ts : List Cond} {own C : String} {b : Addr} {As rest : List Value} {g : JFrame}
theorem vx_runVX {hh : List (Nat × Nat × Nat × Nat)} (S : CallFix p m c cc nL s args Ts own) (hM : vx_Met l y ws rm Pc Qc XC mc ms free) (cw : vx_CVW R s args own C index y bytes maxL ret hh ws rm mc ms n) (hp : PreV s H C b Pc As)
    (hg : g.method = m) (hn : As.length = n) (hsize : g.locals.size = nL) (hstack : g.stack = As.reverse ++ .ref b :: rest) (hW : 2 * g.monitorRoom + (rest.map fun v => v.category).sum ≤ 8) (hdg : decode cc g.pc = .ok (.invokevirtual index, 3)) (hf : cells + mc ≤ R.cells ∧ slots + ms ≤ R.slots) :
    vx_Run p l e R s m args below meth c H locs cells slots mc ms g rest (Qc (Value.ref b :: As).toArray) XC free := by
  obtain ⟨⟨hrc, hrs, hfr, hlo, hws, hcw⟩, hcode, hini, hy, hlen, hl, hin, hse⟩ := cw
  have hK : vx_Back l R p e below s args y 3 8 (PreOf R mc ms Pc) (PostOf Qc mc ms free) (vx_Post XC mc ms free) := vx_backW (hh := hh) (bytes := bytes) (maxL := maxL) (ret := ret) hM hp.1 hrc hrs hfr hlo hws hcw (fun a' U hW => word_at hW (Or.inl (by first | rfl | simp [Cond.onTables, Cond.keeps, Cond.steady])) hini)
  obtain ⟨hx, hb, hml, ho, -⟩ := S
  obtain ⟨-, ⟨cellB, hcB, hoB, hclB⟩, hPc⟩ := hp
  intro T hT X
  rcases vx_callVX X hx (C := C) (hh := hh) (bytes := bytes) (maxL := maxL) (ret := ret) ho hl hin hse hcode hy hK (by rw [hT]; exact hcB) hoB hclB hg (hsize.trans hml.symm) (argsL := As) (rest := rest) (fun sig h => hn.trans (hlen sig h)) hstack hW (by rw [hb]; exact hdg)
    (fun vm₁ hW₁ => ⟨hf.1, hf.2, hPc (T.setVm vm₁) hT hW₁⟩) with ⟨v, vm₁, ⟨U', l2, c2, s2⟩, hW₁, X', ⟨g', mk, t, L, e1, e2, hq, h1, hL, h2, h3⟩, st⟩ | ⟨q, vm₁, ⟨U', l2, c2, s2⟩, hW₁, X', ⟨g', mk, t, L, E, ce, e1, e2, hq, hce, hcv, hcl, h1, hL, h2, h3⟩, st⟩
  · dsimp only [Pt.U, Pt.locs, Pt.cells, Pt.slots] at X' e1 e2 h1 h2 h3 st
    subst h1; subst h2; subst h3
    exact Or.inl ⟨v, (T.setVm vm₁).calling g' mk (Value.ref b :: As).toArray, t, U', L, hT, X', hL, e1, e2, hq, st⟩
  · dsimp only [Pt.U, Pt.locs, Pt.cells, Pt.slots] at X' e1 e2 h1 h2 h3 st hcl
    subst h1; subst h2; subst h3
    exact Or.inr ⟨q, (T.setVm vm₁).calling g' mk (Value.ref b :: As).toArray, t, U', L, E, ce, hT, X', hL, e1, e2, hq, hce, hcv, vx_cls hW₁ hcl, st⟩
theorem vx_runSX {hh : List (Nat × Nat × Nat × Nat)} (S : CallFix p m c cc nL s args Ts own) (hM : vx_Met l y ws rm Pc Qc XC mc ms free) (cw : vx_CSW R s args own index y bytes maxL ret hh ws rm mc ms n) (hp : PreS s H Pc As)
    (hg : g.method = m) (hn : As.length = n) (hsize : g.locals.size = nL) (hstack : g.stack = As.reverse ++ rest) (hW : 2 * g.monitorRoom + (rest.map fun v => v.category).sum ≤ 8) (hdg : decode cc g.pc = .ok (.invokestatic index, 3)) (hf : cells + mc ≤ R.cells ∧ slots + ms ≤ R.slots) :
    vx_Run p l e R s m args below meth c H locs cells slots mc ms g rest (Qc As.toArray) XC free := by
  obtain ⟨⟨hrc, hrs, hfr, hlo, hws, hcw⟩, hcode, hini, hy, hlen, hl, hstt⟩ := cw
  have hK : vx_Back l R p e below s args y 3 8 (PreOf R mc ms Pc) (PostOf Qc mc ms free) (vx_Post XC mc ms free) := vx_backW (hh := hh) (bytes := bytes) (maxL := maxL) (ret := ret) hM hp.1 hrc hrs hfr hlo hws hcw (fun a' U hW => word_at hW (Or.inl (by first | rfl | simp [Cond.onTables, Cond.keeps, Cond.steady])) hini)
  obtain ⟨hx, hb, hml, ho, -⟩ := S
  intro T hT X
  rcases vx_callSX X hx (hh := hh) (bytes := bytes) (maxL := maxL) (ret := ret) ho hl hstt hini hcode hy hK hg (hsize.trans hml.symm) (argsL := As) (rest := rest) (fun sig h => hn.trans (hlen sig h)) hstack hW (by rw [hb]; exact hdg)
    (fun vm₁ hW₁ => ⟨hf.1, hf.2, hp.2 (T.setVm vm₁) hT hW₁⟩) with ⟨v, vm₁, ⟨U', l2, c2, s2⟩, hW₁, X', ⟨g', mk, t, L, e1, e2, hq, h1, hL, h2, h3⟩, st⟩ | ⟨q, vm₁, ⟨U', l2, c2, s2⟩, hW₁, X', ⟨g', mk, t, L, E, ce, e1, e2, hq, hce, hcv, hcl, h1, hL, h2, h3⟩, st⟩
  · dsimp only [Pt.U, Pt.locs, Pt.cells, Pt.slots] at X' e1 e2 h1 h2 h3 st
    subst h1; subst h2; subst h3
    exact Or.inl ⟨v, (T.setVm vm₁).calling g' mk As.toArray, t, U', L, hT, X', hL, e1, e2, hq, st⟩
  · dsimp only [Pt.U, Pt.locs, Pt.cells, Pt.slots] at X' e1 e2 h1 h2 h3 st hcl
    subst h1; subst h2; subst h3
    exact Or.inr ⟨q, (T.setVm vm₁).calling g' mk As.toArray, t, U', L, E, ce, hT, X', hL, e1, e2, hq, hce, hcv, vx_cls hW₁ hcl, st⟩
end
end VXH
theorem vx_ofWH {l : Launch} {y : MethodName} {ws ws' : List Cond} {rm : Room} {Pc : Array Value → State → Prop} {Qc : Array Value → State → Outcome → State → Prop} {XC : String → State → State → Prop} {mc ms : Nat} {free : Addr → Prop} {cc : ByteArray} {maxL : Nat} {ret : Option FieldType} {hh : List (Nat × Nat × Nat × Nat)}
    (hy : plainName y.cls = true) (hw : ws = Cond.codeWith y cc maxL ret hh :: ws')
    (body : ∀ p e s m args below meth c s₁, BodyLoose p l y (headSpec ws rm) cc maxL ret e s m args below meth c s₁ → c.maxLocals = maxL → Pc args s →
      W p l e (headSpec ws rm).room s m args below meth c s.heap [] 0 0 (vx_MQ below Qc XC args s mc ms free) (entryFrame m args maxL)) : vx_Met l y ws rm Pc Qc XC mc ms free := by
  refine MetFree.of_bodyS (code := cc) (maxLocals := maxL) (ret := ret) hy ?_ ?_
  · intro args s m h hn
    obtain ⟨m9, meth, c, hn9, h1, h2, h3, h4, -, h5, h6, -⟩ := Cond.codeWith_spec (atoms_spec (ws := ws) h _ (by rw [hw]; exact List.mem_cons_self))
    cases hn.symm.trans hn9
    exact ⟨meth, c, h1, h2, h3, h4, h5, h6⟩
  · intro p e s m args below meth c s₁ B hml hP _
    have hh0 : s₁.heap = s.heap := by rw [B.state]; rfl
    obtain ⟨t, a1, o, b1, b2, b3⟩ := body p e s m args below meth c s₁ B hml hP s₁ hh0 (Stand.of_body B)
    exact ⟨t, o, a1, b1, b2, b3⟩
/-! ===== END ===== -/

/-! ===== BEGIN a constructor that throws (launches without stack traces) ===== -/
section VXIA
variable {p : Program} {l : Launch} {e : Env} {R : Room} {s : State} {m : MethodId} {args : Array Value} {below : List Frame} {meth : Method} {c : Code} {T : State} {locs : List Loc} {cells slots : Nat}
theorem vx_callI (X : Stand p l e R s m args below meth c T locs cells slots) (hexec : p.tables.exec = Jvm.exec) {own : String} {index : Nat} {y : MethodName} {bytes : ByteArray} {maxL : Nat}
    (hown : s.vm.findClass own = some m.cls) (hy1 : y.name = "<init>") (hlink : (Cond.methodLink own index y).before args s = true) (hinst : (Cond.instanceMethod y).before args s = true)
    (hcode : (Cond.code y bytes maxL none).before args s = true) (hy : y.cls ≠ "java/lang/invoke/MethodHandle" ∧ y.cls ≠ "java/lang/invoke/VarHandle")
    {W9 : Nat} {Pre : Pt → Array Value → Prop} {Post : Pt → Array Value → Option Value → Pt → Prop} {PostX : Pt → Array Value → Addr → Pt → Prop} (hK : vx_Back l R p e below s args y 3 W9 Pre Post PostX)
    {g : JFrame} (hg : g.method = m) (hsize : g.locals.size = c.maxLocals) {a : Addr} {argsL rest : List Value} (hlen : ∀ sig, parseMethodDescriptor y.desc = some sig → argsL.length = sig.parameters.length)
    (hstack : g.stack = argsL.reverse ++ .ref a :: rest) (hW : 2 * g.monitorRoom + (rest.map fun v => v.category).sum ≤ W9) (hdg : decode c.code g.pc = .ok (.invokespecial index, 3))
    (hpre : ∀ vm₁, s.WarmedH vm₁ → Pre ⟨T.setVm vm₁, locs, cells, slots⟩ (Value.ref a :: argsL).toArray) :
    (∃ (v : Option Value) (vm₁ : Vm) (B : Pt), s.WarmedH vm₁ ∧ Stand p l e R s m args below meth c B.U B.locs B.cells B.slots ∧ Post ⟨T.setVm vm₁, locs, cells, slots⟩ (Value.ref a :: argsL).toArray v B ∧
      ∀ target, Steps p.tables e below (B.U.setTop { g with pc := g.pc + 3, stack := v.toList ++ rest }) target → Steps p.tables e below (T.setTop g) target) ∨
    (∃ (q : Addr) (vm₁ : Vm) (B : Pt), s.WarmedH vm₁ ∧ Stand p l e R s m args below meth c B.U B.locs B.cells B.slots ∧ PostX ⟨T.setVm vm₁, locs, cells, slots⟩ (Value.ref a :: argsL).toArray q B ∧
      Steps p.tables e below (T.setTop g) ((B.U.setTop { g with stack := rest }).pushFrame (.throwing q))) := by
  subst hg
  have hpl : e.platform.magicAccessors = ({} : Platform).magicAccessors := by rw [X.admits.platform]
  obtain ⟨mk, methM, cM, kP, vm₁, hnamed, hmethM, hcodeM, -, hlocalsM, -, hkP, -, hW₁, hstep₁⟩ := Steps.initColdArgs (e := e) X.here hexec X.warmed hpl hown hy1 hy hlink hinst hcode (f := g) rfl hlen hstack hdg
  have X₁ := X.noted hW₁
  rcases hK g.method meth c ⟨T.setVm vm₁, locs, cells, slots⟩ { g with stack := rest } (.invokespecial index) mk (Value.ref a :: argsL).toArray X₁ rfl hsize hdg hW (X₁.named hnamed) (hpre vm₁ X₁.warmed) with ⟨v, B, X', hpost, hsteps⟩ | ⟨q, B, X', hpost, hsteps⟩
  · exact Or.inl ⟨v, vm₁, B, X₁.warmed, X', hpost, fun target h => hstep₁ _ fun acts => by rw [doInvoke_state]; exact hsteps.trans h⟩
  · exact Or.inr ⟨q, vm₁, B, X₁.warmed, X', hpost, hstep₁ _ fun acts => by rw [doInvoke_state]; exact hsteps⟩
end VXIA
section VXIB
variable {p : Program} {l : Launch} {e : Env} {R : Room} {s : State} {m : MethodId} {args : Array Value} {below : List Frame} {meth : Method} {c : Code} {H : Heap} {locs : List Loc} {cells slots : Nat}
variable {y : MethodName} {bytes cc : ByteArray} {maxL nL mc ms n index : Nat} {ret : Option FieldType} {ws : List Cond} {rm : Room} {Pc : Array Value → State → Prop} {Qc : Array Value → State → Outcome → State → Prop} {XC : String → State → State → Prop} {free : Addr → Prop} {Ts : List Cond} {own C : String} {b : Addr} {As rest : List Value} {g : JFrame}
theorem vx_runI (S : CallFix p m c cc nL s args Ts own) (hM : vx_Met l y ws rm Pc Qc XC mc ms free) (cw : CallB R s args own index y bytes maxL none ws rm mc ms n ∧ y.name = "<init>" ∧ (Cond.instanceMethod y).before args s = true) (hp : PreS s H Pc (.ref b :: As))
    (hg : g.method = m) (hn : As.length = n) (hsize : g.locals.size = nL) (hstack : g.stack = As.reverse ++ .ref b :: rest) (hW : 2 * g.monitorRoom + (rest.map fun v => v.category).sum ≤ 8) (hdg : decode cc g.pc = .ok (.invokespecial index, 3)) (hf : cells + mc ≤ R.cells ∧ slots + ms ≤ R.slots) :
    vx_Run p l e R s m args below meth c H locs cells slots mc ms g rest (Qc (Value.ref b :: As).toArray) XC free := by
  have hK : vx_Back l R p e below s args y 3 8 (PreOf R mc ms Pc) (PostOf Qc mc ms free) (vx_Post XC mc ms free) := vx_callBack cw.1 hM hp.1
  obtain ⟨⟨-, -, -, -, -, -, hcode, -, hy, hlen, hl⟩, hy1, hin⟩ := cw
  obtain ⟨hx, hb, hml, ho, -⟩ := S
  have hPc := hp.2
  intro T hT X
  rcases vx_callI X hx (bytes := bytes) (maxL := maxL) ho hy1 hl hin hcode hy hK hg (hsize.trans hml.symm) (a := b) (argsL := As) (rest := rest) (fun sig h => hn.trans (hlen sig h)) hstack hW (by rw [hb]; exact hdg)
    (fun vm₁ hW₁ => ⟨hf.1, hf.2, hPc (T.setVm vm₁) hT hW₁⟩) with ⟨v, vm₁, ⟨U', l2, c2, s2⟩, hW₁, X', ⟨g', mk, t, L, e1, e2, hq, h1, hL, h2, h3⟩, st⟩ | ⟨q, vm₁, ⟨U', l2, c2, s2⟩, hW₁, X', ⟨g', mk, t, L, E, ce, e1, e2, hq, hce, hcv, hcl, h1, hL, h2, h3⟩, st⟩
  · dsimp only [Pt.U, Pt.locs, Pt.cells, Pt.slots] at X' e1 e2 h1 h2 h3 st
    subst h1; subst h2; subst h3
    exact Or.inl ⟨v, (T.setVm vm₁).calling g' mk (Value.ref b :: As).toArray, t, U', L, hT, X', hL, e1, e2, hq, st⟩
  · dsimp only [Pt.U, Pt.locs, Pt.cells, Pt.slots] at X' e1 e2 h1 h2 h3 st hcl
    subst h1; subst h2; subst h3
    exact Or.inr ⟨q, (T.setVm vm₁).calling g' mk (Value.ref b :: As).toArray, t, U', L, E, ce, hT, X', hL, e1, e2, hq, hce, hcv, vx_cls hW₁ hcl, st⟩
end VXIB
/-! ===== END ===== -/
/-! ===== BEGIN a private constructor of a nest mate that throws ===== -/
section VXIC
variable {p : Program} {l : Launch} {e : Env} {R : Room} {s : State} {m : MethodId} {args : Array Value} {below : List Frame} {meth : Method} {c : Code} {T : State} {locs : List Loc} {cells slots : Nat}
theorem vx_callIN (X : Stand p l e R s m args below meth c T locs cells slots) (hexec : p.tables.exec = Jvm.exec) {own : String} {index : Nat} {host : String} {y : MethodName} {bytes : ByteArray} {maxL : Nat}
    (hown : s.vm.findClass own = some m.cls) (hy1 : y.name = "<init>") (hlink : (Cond.methodLinkNest own index y host).before args s = true) (hinst : (Cond.instanceMethod y).before args s = true)
    (hcode : (Cond.code y bytes maxL none).before args s = true) (hy : y.cls ≠ "java/lang/invoke/MethodHandle" ∧ y.cls ≠ "java/lang/invoke/VarHandle")
    {W9 : Nat} {Pre : Pt → Array Value → Prop} {Post : Pt → Array Value → Option Value → Pt → Prop} {PostX : Pt → Array Value → Addr → Pt → Prop} (hK : vx_Back l R p e below s args y 3 W9 Pre Post PostX)
    {g : JFrame} (hg : g.method = m) (hsize : g.locals.size = c.maxLocals) {a : Addr} {argsL rest : List Value} (hlen : ∀ sig, parseMethodDescriptor y.desc = some sig → argsL.length = sig.parameters.length)
    (hstack : g.stack = argsL.reverse ++ .ref a :: rest) (hW : 2 * g.monitorRoom + (rest.map fun v => v.category).sum ≤ W9) (hdg : decode c.code g.pc = .ok (.invokespecial index, 3))
    (hpre : ∀ vm₁, s.WarmedH vm₁ → Pre ⟨T.setVm vm₁, locs, cells, slots⟩ (Value.ref a :: argsL).toArray) :
    (∃ (v : Option Value) (vm₁ : Vm) (B : Pt), s.WarmedH vm₁ ∧ Stand p l e R s m args below meth c B.U B.locs B.cells B.slots ∧ Post ⟨T.setVm vm₁, locs, cells, slots⟩ (Value.ref a :: argsL).toArray v B ∧
      ∀ target, Steps p.tables e below (B.U.setTop { g with pc := g.pc + 3, stack := v.toList ++ rest }) target → Steps p.tables e below (T.setTop g) target) ∨
    (∃ (q : Addr) (vm₁ : Vm) (B : Pt), s.WarmedH vm₁ ∧ Stand p l e R s m args below meth c B.U B.locs B.cells B.slots ∧ PostX ⟨T.setVm vm₁, locs, cells, slots⟩ (Value.ref a :: argsL).toArray q B ∧
      Steps p.tables e below (T.setTop g) ((B.U.setTop { g with stack := rest }).pushFrame (.throwing q))) := by
  subst hg
  have hpl : e.platform.magicAccessors = ({} : Platform).magicAccessors := by rw [X.admits.platform]
  obtain ⟨mk, methM, cM, kP, vm₁, hnamed, hmethM, hcodeM, -, hlocalsM, -, hkP, -, hW₁, hstep₁⟩ := Steps.initColdArgsNest (e := e) X.here hexec X.warmed hpl hown hy1 hy hlink hinst hcode (f := g) rfl hlen hstack hdg
  have X₁ := X.noted hW₁
  rcases hK g.method meth c ⟨T.setVm vm₁, locs, cells, slots⟩ { g with stack := rest } (.invokespecial index) mk (Value.ref a :: argsL).toArray X₁ rfl hsize hdg hW (X₁.named hnamed) (hpre vm₁ X₁.warmed) with ⟨v, B, X', hpost, hsteps⟩ | ⟨q, B, X', hpost, hsteps⟩
  · exact Or.inl ⟨v, vm₁, B, X₁.warmed, X', hpost, fun target h => hstep₁ _ fun acts => by rw [doInvoke_state]; exact hsteps.trans h⟩
  · exact Or.inr ⟨q, vm₁, B, X₁.warmed, X', hpost, hstep₁ _ fun acts => by rw [doInvoke_state]; exact hsteps⟩
end VXIC
section VXID
variable {p : Program} {l : Launch} {e : Env} {R : Room} {s : State} {m : MethodId} {args : Array Value} {below : List Frame} {meth : Method} {c : Code} {H : Heap} {locs : List Loc} {cells slots : Nat}
theorem vx_runIN {y : MethodName} {bytes cc : ByteArray} {maxL nL mc ms n index : Nat} {ws : List Cond} {rm : Room} {Pc : Array Value → State → Prop} {Qc : Array Value → State → Outcome → State → Prop} {XC : String → State → State → Prop} {free : Addr → Prop} {Ts : List Cond} {own host : String} {b : Addr} {As rest : List Value} {g : JFrame}
    (S : CallFix p m c cc nL s args Ts own) (hM : vx_Met l y ws rm Pc Qc XC mc ms free) (cw : va_CN R s args own index y host bytes maxL none ws rm mc ms n ∧ y.name = "<init>" ∧ (Cond.instanceMethod y).before args s = true) (hp : PreS s H Pc (.ref b :: As))
    (hg : g.method = m) (hn : As.length = n) (hsize : g.locals.size = nL) (hstack : g.stack = As.reverse ++ .ref b :: rest) (hW : 2 * g.monitorRoom + (rest.map fun v => v.category).sum ≤ 8) (hdg : decode cc g.pc = .ok (.invokespecial index, 3)) (hf : cells + mc ≤ R.cells ∧ slots + ms ≤ R.slots) :
    vx_Run p l e R s m args below meth c H locs cells slots mc ms g rest (Qc (Value.ref b :: As).toArray) XC free := by
  obtain ⟨⟨⟨hrc, hrs, hfr, hlo, hws, hcw⟩, hcode, hini, hy, hlen, hl⟩, hx1, hx2⟩ := cw
  have hK : vx_Back l R p e below s args y 3 8 (PreOf R mc ms Pc) (PostOf Qc mc ms free) (vx_Post XC mc ms free) := vx_back (bytes := bytes) (maxL := maxL) (ret := none) hM hp.1 hrc hrs hfr hlo hws hcw (fun a' U hW => word_at hW (Or.inl (by first | rfl | simp [Cond.onTables, Cond.keeps, Cond.steady])) hini)
  obtain ⟨hx, hb, hml, ho, -⟩ := S
  have hPc := hp.2
  intro T hT X
  rcases vx_callIN X hx (bytes := bytes) (maxL := maxL) ho hx1 hl hx2 hcode hy hK hg (hsize.trans hml.symm) (a := b) (argsL := As) (rest := rest) (fun sig h => hn.trans (hlen sig h)) hstack hW (by rw [hb]; exact hdg)
    (fun vm₁ hW₁ => ⟨hf.1, hf.2, hPc (T.setVm vm₁) hT hW₁⟩) with ⟨v, vm₁, ⟨U', l2, c2, s2⟩, hW₁, X', ⟨g', mk, t, L, e1, e2, hq, h1, hL, h2, h3⟩, st⟩ | ⟨q, vm₁, ⟨U', l2, c2, s2⟩, hW₁, X', ⟨g', mk, t, L, E, ce, e1, e2, hq, hce, hcv, hcl, h1, hL, h2, h3⟩, st⟩
  · dsimp only [Pt.U, Pt.locs, Pt.cells, Pt.slots] at X' e1 e2 h1 h2 h3 st
    subst h1; subst h2; subst h3
    exact Or.inl ⟨v, (T.setVm vm₁).calling g' mk (Value.ref b :: As).toArray, t, U', L, hT, X', hL, e1, e2, hq, st⟩
  · dsimp only [Pt.U, Pt.locs, Pt.cells, Pt.slots] at X' e1 e2 h1 h2 h3 st hcl
    subst h1; subst h2; subst h3
    exact Or.inr ⟨q, (T.setVm vm₁).calling g' mk (Value.ref b :: As).toArray, t, U', L, E, ce, hT, X', hL, e1, e2, hq, hce, hcv, vx_cls hW₁ hcl, st⟩
end VXID
/-! ===== END ===== -/
end
section
def RX0 : String := "ChargeYard$Booking"
def TX0 : u_T := fun k => match k with
  | 0 => ("ChargeYard$Booking", "holder", "LChargeYard$Card;", true)
  | 1 => ("ChargeYard$Booking", "from", "I", true)
  | _ => ("ChargeYard$Booking", "to", "I", true)
def tyX0 : Nat → FieldType := fun k => match k with
  | 0 => .object "ChargeYard$Card"
  | 1 => .int
  | _ => .int
theorem nmX0 : ∀ a, a < 3 → ∀ b, b < 3 → a ≠ b → (TX0 a).2.1 ≠ (TX0 b).2.1 := by decide +kernel
theorem tyX0_ok : ∀ k, k < 3 → parseFieldDescriptor (TX0 k).2.2.1 = some (tyX0 k) := by decide +kernel
abbrev cX0_init : ByteArray := prog_2_method_1_code
def yX0_init : MethodName := ⟨RX0, "<init>", "(LChargeYard$Card;II)V"⟩
abbrev cX0_holdsAt : ByteArray := prog_2_method_2_code
def yX0_holdsAt : MethodName := ⟨RX0, "holdsAt", "(I)Z"⟩
abbrev cX0_isLateAt : ByteArray := prog_2_method_3_code
def yX0_isLateAt : MethodName := ⟨RX0, "isLateAt", "(I)Z"⟩
def RX1 : String := "ChargeYard$Car"
def TX1 : u_T := fun k => match k with
  | 0 => ("ChargeYard$Car", "number", "I", true)
  | 1 => ("ChargeYard$Car", "capacity", "I", true)
  | 2 => ("ChargeYard$Car", "most", "I", true)
  | 3 => ("ChargeYard$Car", "holds", "I", false)
  | _ => ("ChargeYard$Car", "isPlugged", "Z", false)
def tyX1 : Nat → FieldType := fun k => match k with
  | 0 => .int
  | 1 => .int
  | 2 => .int
  | 3 => .int
  | _ => .boolean
theorem nmX1 : ∀ a, a < 5 → ∀ b, b < 5 → a ≠ b → (TX1 a).2.1 ≠ (TX1 b).2.1 := by decide +kernel
theorem tyX1_ok : ∀ k, k < 5 → parseFieldDescriptor (TX1 k).2.2.1 = some (tyX1 k) := by decide +kernel
abbrev cX1_init : ByteArray := prog_3_method_1_code
def yX1_init : MethodName := ⟨RX1, "<init>", "(IIII)V"⟩
abbrev cX1_isFull : ByteArray := prog_3_method_2_code
def yX1_isFull : MethodName := ⟨RX1, "isFull", "()Z"⟩
abbrev cX1_wants : ByteArray := prog_3_method_3_code
def yX1_wants : MethodName := ⟨RX1, "wants", "(I)I"⟩
def RX2 : String := "ChargeYard$Card"
def TX2 : u_T := fun k => match k with
  | 0 => ("ChargeYard$Card", "firm", "LChargeYard$Firm;", true)
  | 1 => ("ChargeYard$Card", "rank", "I", true)
  | 2 => ("ChargeYard$Card", "isGood", "Z", false)
  | 3 => ("ChargeYard$Card", "isListed", "Z", false)
  | _ => ("ChargeYard$Card", "debt", "I", false)
def tyX2 : Nat → FieldType := fun k => match k with
  | 0 => .object "ChargeYard$Firm"
  | 1 => .int
  | 2 => .boolean
  | 3 => .boolean
  | _ => .int
theorem nmX2 : ∀ a, a < 5 → ∀ b, b < 5 → a ≠ b → (TX2 a).2.1 ≠ (TX2 b).2.1 := by decide +kernel
theorem tyX2_ok : ∀ k, k < 5 → parseFieldDescriptor (TX2 k).2.2.1 = some (tyX2 k) := by decide +kernel
abbrev cX2_init : ByteArray := prog_4_method_1_code
def yX2_init : MethodName := ⟨RX2, "<init>", "(LChargeYard$Firm;I)V"⟩
def RX3 : String := "ChargeYard$Firm"
def TX3 : u_T := fun k => match k with
  | 0 => ("ChargeYard$Firm", "prices", "LChargeYard$Tariff;", false)
  | _ => ("ChargeYard$Firm", "balance", "I", false)
def tyX3 : Nat → FieldType := fun k => match k with
  | 0 => .object "ChargeYard$Tariff"
  | _ => .int
theorem nmX3 : ∀ a, a < 2 → ∀ b, b < 2 → a ≠ b → (TX3 a).2.1 ≠ (TX3 b).2.1 := by decide +kernel
theorem tyX3_ok : ∀ k, k < 2 → parseFieldDescriptor (TX3 k).2.2.1 = some (tyX3 k) := by decide +kernel
abbrev cX3_init : ByteArray := prog_5_method_1_code
def yX3_init : MethodName := ⟨RX3, "<init>", "()V"⟩
def RX4 : String := "ChargeYard$Session"
def TX4 : u_T := fun k => match k with
  | 0 => ("ChargeYard$Session", "socket", "LChargeYard$Socket;", true)
  | 1 => ("ChargeYard$Session", "car", "LChargeYard$Car;", true)
  | 2 => ("ChargeYard$Session", "card", "LChargeYard$Card;", true)
  | 3 => ("ChargeYard$Session", "prices", "LChargeYard$Tariff;", true)
  | 4 => ("ChargeYard$Session", "values", "LChargeYard$Values;", true)
  | 5 => ("ChargeYard$Session", "energy", "I", false)
  | 6 => ("ChargeYard$Session", "latest", "I", false)
  | 7 => ("ChargeYard$Session", "latestHeard", "I", false)
  | 8 => ("ChargeYard$Session", "isBegunDown", "Z", false)
  | 9 => ("ChargeYard$Session", "isUnplugged", "Z", false)
  | 10 => ("ChargeYard$Session", "isBilled", "Z", false)
  | 11 => ("ChargeYard$Session", "isDisputed", "Z", false)
  | 12 => ("ChargeYard$Session", "bound", "I", false)
  | _ => ("ChargeYard$Session", "flow", "I", false)
def tyX4 : Nat → FieldType := fun k => match k with
  | 0 => .object "ChargeYard$Socket"
  | 1 => .object "ChargeYard$Car"
  | 2 => .object "ChargeYard$Card"
  | 3 => .object "ChargeYard$Tariff"
  | 4 => .object "ChargeYard$Values"
  | 5 => .int
  | 6 => .int
  | 7 => .int
  | 8 => .boolean
  | 9 => .boolean
  | 10 => .boolean
  | 11 => .boolean
  | 12 => .int
  | _ => .int
theorem nmX4 : ∀ a, a < 14 → ∀ b, b < 14 → a ≠ b → (TX4 a).2.1 ≠ (TX4 b).2.1 := by decide +kernel
theorem tyX4_ok : ∀ k, k < 14 → parseFieldDescriptor (TX4 k).2.2.1 = some (tyX4 k) := by decide +kernel
abbrev cX4_init : ByteArray := prog_6_method_1_code
def yX4_init : MethodName := ⟨RX4, "<init>", "(LChargeYard$Socket;LChargeYard$Car;LChargeYard$Card;I)V"⟩
abbrev cX4_boundIn : ByteArray := prog_6_method_2_code
def yX4_boundIn : MethodName := ⟨RX4, "boundIn", "(I)I"⟩
abbrev cX4_mostWhileDown : ByteArray := prog_6_method_3_code
def yX4_mostWhileDown : MethodName := ⟨RX4, "mostWhileDown", "(I)I"⟩
abbrev cX4_takesMore : ByteArray := prog_6_method_4_code
def yX4_takesMore : MethodName := ⟨RX4, "takesMore", "()Z"⟩
abbrev cX4_isOfTwoFirms : ByteArray := prog_6_method_5_code
def yX4_isOfTwoFirms : MethodName := ⟨RX4, "isOfTwoFirms", "()Z"⟩
abbrev cX4_billHeard : ByteArray := prog_6_method_6_code
def yX4_billHeard : MethodName := ⟨RX4, "billHeard", "()I"⟩
abbrev cX4_billAll : ByteArray := prog_6_method_7_code
def yX4_billAll : MethodName := ⟨RX4, "billAll", "()I"⟩
abbrev cX4_state : ByteArray := prog_6_method_8_code
def yX4_state : MethodName := ⟨RX4, "state", "()I"⟩
def RX5 : String := "ChargeYard$Socket"
def TX5 : u_T := fun k => match k with
  | 0 => ("ChargeYard$Socket", "number", "I", true)
  | 1 => ("ChargeYard$Socket", "firm", "LChargeYard$Firm;", true)
  | 2 => ("ChargeYard$Socket", "most", "I", true)
  | 3 => ("ChargeYard$Socket", "isFaulty", "Z", false)
  | 4 => ("ChargeYard$Socket", "isUp", "Z", false)
  | 5 => ("ChargeYard$Socket", "downSince", "I", false)
  | 6 => ("ChargeYard$Socket", "session", "LChargeYard$Session;", false)
  | _ => ("ChargeYard$Socket", "bookings", "Ljava/util/ArrayList;", true)
def tyX5 : Nat → FieldType := fun k => match k with
  | 0 => .int
  | 1 => .object "ChargeYard$Firm"
  | 2 => .int
  | 3 => .boolean
  | 4 => .boolean
  | 5 => .int
  | 6 => .object "ChargeYard$Session"
  | _ => .object "java/util/ArrayList"
theorem nmX5 : ∀ a, a < 8 → ∀ b, b < 8 → a ≠ b → (TX5 a).2.1 ≠ (TX5 b).2.1 := by decide +kernel
theorem tyX5_ok : ∀ k, k < 8 → parseFieldDescriptor (TX5 k).2.2.1 = some (tyX5 k) := by decide +kernel
abbrev cX5_init : ByteArray := prog_7_method_1_code
def yX5_init : MethodName := ⟨RX5, "<init>", "(ILChargeYard$Firm;I)V"⟩
def RX6 : String := "ChargeYard$Tally"
def TX6 : u_T := fun k => match k with
  | 0 => ("ChargeYard$Tally", "energy", "I", false)
  | 1 => ("ChargeYard$Tally", "dayEnergy", "I", false)
  | 2 => ("ChargeYard$Tally", "nightEnergy", "I", false)
  | _ => ("ChargeYard$Tally", "idleMinutes", "I", false)
def tyX6 : Nat → FieldType := fun k => match k with
  | 0 => .int
  | 1 => .int
  | 2 => .int
  | _ => .int
theorem nmX6 : ∀ a, a < 4 → ∀ b, b < 4 → a ≠ b → (TX6 a).2.1 ≠ (TX6 b).2.1 := by decide +kernel
theorem tyX6_ok : ∀ k, k < 4 → parseFieldDescriptor (TX6 k).2.2.1 = some (tyX6 k) := by decide +kernel
abbrev cX6_init : ByteArray := prog_8_method_1_code
def yX6_init : MethodName := ⟨RX6, "<init>", "()V"⟩
abbrev cX6_take : ByteArray := prog_8_method_2_code
def yX6_take : MethodName := ⟨RX6, "take", "(IIZ)V"⟩
abbrev cX6_cents : ByteArray := prog_8_method_3_code
def yX6_cents : MethodName := ⟨RX6, "cents", "(LChargeYard$Tariff;)I"⟩
def RX7 : String := "ChargeYard$Tariff"
def TX7 : u_T := fun k => match k with
  | 0 => ("ChargeYard$Tariff", "start", "I", true)
  | 1 => ("ChargeYard$Tariff", "byDay", "I", true)
  | 2 => ("ChargeYard$Tariff", "byNight", "I", true)
  | _ => ("ChargeYard$Tariff", "idling", "I", true)
def tyX7 : Nat → FieldType := fun k => match k with
  | 0 => .int
  | 1 => .int
  | 2 => .int
  | _ => .int
theorem nmX7 : ∀ a, a < 4 → ∀ b, b < 4 → a ≠ b → (TX7 a).2.1 ≠ (TX7 b).2.1 := by decide +kernel
theorem tyX7_ok : ∀ k, k < 4 → parseFieldDescriptor (TX7 k).2.2.1 = some (tyX7 k) := by decide +kernel
abbrev cX7_init : ByteArray := prog_9_method_1_code
def yX7_init : MethodName := ⟨RX7, "<init>", "(IIII)V"⟩
def RX8 : String := "ChargeYard$Values"
def TX8 : u_T := fun k => match k with
  | 0 => ("ChargeYard$Values", "firstMinute", "I", true)
  | 1 => ("ChargeYard$Values", "row", "[I", false)
  | 2 => ("ChargeYard$Values", "made", "I", false)
  | 3 => ("ChargeYard$Values", "heard", "I", false)
  | _ => ("ChargeYard$Values", "ofHeard", "LChargeYard$Tally;", true)
def tyX8 : Nat → FieldType := fun k => match k with
  | 0 => .int
  | 1 => .array .int
  | 2 => .int
  | 3 => .int
  | _ => .object "ChargeYard$Tally"
theorem nmX8 : ∀ a, a < 5 → ∀ b, b < 5 → a ≠ b → (TX8 a).2.1 ≠ (TX8 b).2.1 := by decide +kernel
theorem tyX8_ok : ∀ k, k < 5 → parseFieldDescriptor (TX8 k).2.2.1 = some (tyX8 k) := by decide +kernel
abbrev cX8_init : ByteArray := prog_10_method_1_code
def yX8_init : MethodName := ⟨RX8, "<init>", "(I)V"⟩
abbrev cX8_make : ByteArray := prog_10_method_2_code
def yX8_make : MethodName := ⟨RX8, "make", "(IZ)V"⟩
abbrev cX8_hearAll : ByteArray := prog_10_method_3_code
def yX8_hearAll : MethodName := ⟨RX8, "hearAll", "()I"⟩
abbrev cX8_ofAll : ByteArray := prog_10_method_4_code
def yX8_ofAll : MethodName := ⟨RX8, "ofAll", "()LChargeYard$Tally;"⟩
abbrev cX8_takeInto : ByteArray := prog_10_method_5_code
def yX8_takeInto : MethodName := ⟨RX8, "takeInto", "(LChargeYard$Tally;I)V"⟩
def RX9 : String := "ChargeYard"
def TX9 : u_T := fun k => match k with
  | 0 => ("ChargeYard", "firms", "Ljava/util/ArrayList;", true)
  | 1 => ("ChargeYard", "sockets", "Ljava/util/ArrayList;", true)
  | 2 => ("ChargeYard", "cars", "Ljava/util/ArrayList;", true)
  | 3 => ("ChargeYard", "cards", "Ljava/util/ArrayList;", true)
  | 4 => ("ChargeYard", "sessions", "Ljava/util/ArrayList;", true)
  | 5 => ("ChargeYard", "running", "Ljava/util/ArrayList;", true)
  | 6 => ("ChargeYard", "minute", "I", false)
  | 7 => ("ChargeYard", "limit", "I", false)
  | 8 => ("ChargeYard", "sun", "I", false)
  | 9 => ("ChargeYard", "degrees", "I", false)
  | _ => ("ChargeYard", "overloadMinutes", "I", false)
def tyX9 : Nat → FieldType := fun k => match k with
  | 0 => .object "java/util/ArrayList"
  | 1 => .object "java/util/ArrayList"
  | 2 => .object "java/util/ArrayList"
  | 3 => .object "java/util/ArrayList"
  | 4 => .object "java/util/ArrayList"
  | 5 => .object "java/util/ArrayList"
  | 6 => .int
  | 7 => .int
  | 8 => .int
  | 9 => .int
  | _ => .int
theorem nmX9 : ∀ a, a < 11 → ∀ b, b < 11 → a ≠ b → (TX9 a).2.1 ≠ (TX9 b).2.1 := by decide +kernel
theorem tyX9_ok : ∀ k, k < 11 → parseFieldDescriptor (TX9 k).2.2.1 = some (tyX9 k) := by decide +kernel
abbrev cX9_init : ByteArray := prog_1_method_1_code
def yX9_init : MethodName := ⟨RX9, "<init>", "()V"⟩
abbrev cX9_socket : ByteArray := prog_1_method_2_code
def yX9_socket : MethodName := ⟨RX9, "socket", "(II)I"⟩
abbrev cX9_car : ByteArray := prog_1_method_3_code
def yX9_car : MethodName := ⟨RX9, "car", "(III)I"⟩
abbrev cX9_card : ByteArray := prog_1_method_4_code
def yX9_card : MethodName := ⟨RX9, "card", "(II)I"⟩
abbrev cX9_good : ByteArray := prog_1_method_5_code
def yX9_good : MethodName := ⟨RX9, "good", "(IZ)Z"⟩
abbrev cX9_set : ByteArray := prog_1_method_6_code
def yX9_set : MethodName := ⟨RX9, "set", "(II)I"⟩
abbrev cX9_fault : ByteArray := prog_1_method_7_code
def yX9_fault : MethodName := ⟨RX9, "fault", "(IZ)Z"⟩
abbrev cX9_link : ByteArray := prog_1_method_8_code
def yX9_link : MethodName := ⟨RX9, "link", "(IZ)I"⟩
abbrev cX9_tariff : ByteArray := prog_1_method_9_code
def yX9_tariff : MethodName := ⟨RX9, "tariff", "(IIIII)V"⟩
abbrev cX9_book : ByteArray := prog_1_method_10_code
def yX9_book : MethodName := ⟨RX9, "book", "(IIII)I"⟩
abbrev cX9_plug : ByteArray := prog_1_method_11_code
def yX9_plug : MethodName := ⟨RX9, "plug", "(III)I"⟩
abbrev cX9_unplug : ByteArray := prog_1_method_12_code
def yX9_unplug : MethodName := ⟨RX9, "unplug", "(I)I"⟩
abbrev cX9_pass : ByteArray := prog_1_method_13_code
def yX9_pass : MethodName := ⟨RX9, "pass", "(I)I"⟩
abbrev cX9_of : ByteArray := prog_1_method_14_code
def yX9_of : MethodName := ⟨RX9, "of", "(II)I"⟩
abbrev cX9_charge : ByteArray := prog_1_method_15_code
def yX9_charge : MethodName := ⟨RX9, "charge", "(I)I"⟩
abbrev cX9_power : ByteArray := prog_1_method_16_code
def yX9_power : MethodName := ⟨RX9, "power", "(I)I"⟩
abbrev cX9_powerAnew : ByteArray := prog_1_method_17_code
def yX9_powerAnew : MethodName := ⟨RX9, "powerAnew", "(I)I"⟩
abbrev cX9_overloads : ByteArray := prog_1_method_18_code
def yX9_overloads : MethodName := ⟨RX9, "overloads", "()I"⟩
abbrev cX9_bill : ByteArray := prog_1_method_19_code
def yX9_bill : MethodName := ⟨RX9, "bill", "(I)I"⟩
abbrev cX9_billAnew : ByteArray := prog_1_method_20_code
def yX9_billAnew : MethodName := ⟨RX9, "billAnew", "(I)I"⟩
abbrev cX9_dispute : ByteArray := prog_1_method_21_code
def yX9_dispute : MethodName := ⟨RX9, "dispute", "(II)I"⟩
abbrev cX9_owes : ByteArray := prog_1_method_22_code
def yX9_owes : MethodName := ⟨RX9, "owes", "(I)I"⟩
abbrev cX9_account : ByteArray := prog_1_method_23_code
def yX9_account : MethodName := ⟨RX9, "account", "(I)I"⟩
abbrev cX9_firmAt : ByteArray := prog_1_method_24_code
def yX9_firmAt : MethodName := ⟨RX9, "firmAt", "(I)LChargeYard$Firm;"⟩
abbrev cX9_socketAt : ByteArray := prog_1_method_25_code
def yX9_socketAt : MethodName := ⟨RX9, "socketAt", "(I)LChargeYard$Socket;"⟩
abbrev cX9_carAt : ByteArray := prog_1_method_26_code
def yX9_carAt : MethodName := ⟨RX9, "carAt", "(I)LChargeYard$Car;"⟩
abbrev cX9_cardAt : ByteArray := prog_1_method_27_code
def yX9_cardAt : MethodName := ⟨RX9, "cardAt", "(I)LChargeYard$Card;"⟩
abbrev cX9_sessionAt : ByteArray := prog_1_method_28_code
def yX9_sessionAt : MethodName := ⟨RX9, "sessionAt", "(I)LChargeYard$Session;"⟩
abbrev cX9_needWithin : ByteArray := prog_1_method_29_code
def yX9_needWithin : MethodName := ⟨RX9, "needWithin", "(III)V"⟩
abbrev cX9_needRoom : ByteArray := prog_1_method_30_code
def yX9_needRoom : MethodName := ⟨RX9, "needRoom", "(II)V"⟩
abbrev cX9_setLimit : ByteArray := prog_1_method_31_code
def yX9_setLimit : MethodName := ⟨RX9, "setLimit", "(I)I"⟩
abbrev cX9_setSun : ByteArray := prog_1_method_32_code
def yX9_setSun : MethodName := ⟨RX9, "setSun", "(I)I"⟩
abbrev cX9_setDegrees : ByteArray := prog_1_method_33_code
def yX9_setDegrees : MethodName := ⟨RX9, "setDegrees", "(I)I"⟩
abbrev cX9_goDown : ByteArray := prog_1_method_34_code
def yX9_goDown : MethodName := ⟨RX9, "goDown", "(LChargeYard$Socket;)V"⟩
abbrev cX9_hearWaiting : ByteArray := prog_1_method_35_code
def yX9_hearWaiting : MethodName := ⟨RX9, "hearWaiting", "(LChargeYard$Socket;)I"⟩
abbrev cX9_isBookedWithin : ByteArray := prog_1_method_36_code
def yX9_isBookedWithin : MethodName := ⟨RX9, "isBookedWithin", "(LChargeYard$Socket;II)Z"⟩
abbrev cX9_isBookedByAnother : ByteArray := prog_1_method_37_code
def yX9_isBookedByAnother : MethodName := ⟨RX9, "isBookedByAnother", "(LChargeYard$Socket;LChargeYard$Card;)Z"⟩
abbrev cX9_useBooking : ByteArray := prog_1_method_38_code
def yX9_useBooking : MethodName := ⟨RX9, "useBooking", "(LChargeYard$Socket;LChargeYard$Card;)V"⟩
abbrev cX9_dropLateBookings : ByteArray := prog_1_method_39_code
def yX9_dropLateBookings : MethodName := ⟨RX9, "dropLateBookings", "()V"⟩
abbrev cX9_refusalOf : ByteArray := prog_1_method_40_code
def yX9_refusalOf : MethodName := ⟨RX9, "refusalOf", "(LChargeYard$Socket;LChargeYard$Car;LChargeYard$Card;)I"⟩
abbrev cX9_begin : ByteArray := prog_1_method_41_code
def yX9_begin : MethodName := ⟨RX9, "begin", "(LChargeYard$Session;)V"⟩
abbrev cX9_leaveRunning : ByteArray := prog_1_method_42_code
def yX9_leaveRunning : MethodName := ⟨RX9, "leaveRunning", "(LChargeYard$Session;)V"⟩
abbrev cX9_serveFirst : ByteArray := prog_1_method_43_code
def yX9_serveFirst : MethodName := ⟨RX9, "serveFirst", "()I"⟩
abbrev cX9_serveRanks : ByteArray := prog_1_method_44_code
def yX9_serveRanks : MethodName := ⟨RX9, "serveRanks", "(IZ)I"⟩
abbrev cX9_shareByLevels : ByteArray := prog_1_method_45_code
def yX9_shareByLevels : MethodName := ⟨RX9, "shareByLevels", "(I)V"⟩
abbrev cX9_raise : ByteArray := prog_1_method_46_code
def yX9_raise : MethodName := ⟨RX9, "raise", "(II)V"⟩
abbrev cX9_shareWattByWatt : ByteArray := prog_1_method_47_code
def yX9_shareWattByWatt : MethodName := ⟨RX9, "shareWattByWatt", "(I)V"⟩
abbrev cX9_passMinute : ByteArray := prog_1_method_48_code
def yX9_passMinute : MethodName := ⟨RX9, "passMinute", "()V"⟩
abbrev cX9_letFlow : ByteArray := prog_1_method_49_code
def yX9_letFlow : MethodName := ⟨RX9, "letFlow", "(LChargeYard$Session;)V"⟩
abbrev cX9_listCards : ByteArray := prog_1_method_50_code
def yX9_listCards : MethodName := ⟨RX9, "listCards", "()V"⟩
abbrev cX9_settleIfDue : ByteArray := prog_1_method_51_code
def yX9_settleIfDue : MethodName := ⟨RX9, "settleIfDue", "(LChargeYard$Session;)V"⟩
abbrev cX9_owe : ByteArray := prog_1_method_52_code
def yX9_owe : MethodName := ⟨RX9, "owe", "(LChargeYard$Session;II)V"⟩
abbrev cX9_partOf : ByteArray := prog_1_method_53_code
def yX9_partOf : MethodName := ⟨RX9, "partOf", "(II)I"⟩
def RX10 : String := "ChargeYardModel"
def TX10 : u_T := fun k => match k with
  | 0 => ("ChargeYardModel", "thrown", "I", false)
  | 1 => ("ChargeYardModel", "now", "I", false)
  | 2 => ("ChargeYardModel", "overloads", "I", false)
  | 3 => ("ChargeYardModel", "limit", "I", false)
  | 4 => ("ChargeYardModel", "sun", "I", false)
  | 5 => ("ChargeYardModel", "degrees", "I", false)
  | 6 => ("ChargeYardModel", "sockets", "I", false)
  | 7 => ("ChargeYardModel", "socketFirm", "[I", true)
  | 8 => ("ChargeYardModel", "most", "[I", true)
  | 9 => ("ChargeYardModel", "isFaulty", "[Z", true)
  | 10 => ("ChargeYardModel", "isDown", "[Z", true)
  | 11 => ("ChargeYardModel", "downSince", "[I", true)
  | 12 => ("ChargeYardModel", "sessionAt", "[I", true)
  | 13 => ("ChargeYardModel", "cars", "I", false)
  | 14 => ("ChargeYardModel", "capacity", "[I", true)
  | 15 => ("ChargeYardModel", "charge", "[I", true)
  | 16 => ("ChargeYardModel", "carPower", "[I", true)
  | 17 => ("ChargeYardModel", "cards", "I", false)
  | 18 => ("ChargeYardModel", "cardFirm", "[I", true)
  | 19 => ("ChargeYardModel", "rank", "[I", true)
  | 20 => ("ChargeYardModel", "isGood", "[Z", true)
  | 21 => ("ChargeYardModel", "isListed", "[Z", true)
  | 22 => ("ChargeYardModel", "owed", "[I", true)
  | 23 => ("ChargeYardModel", "tariffs", "[I", true)
  | 24 => ("ChargeYardModel", "sessionTariff", "[I", true)
  | 25 => ("ChargeYardModel", "firmOwes", "[I", true)
  | 26 => ("ChargeYardModel", "bookings", "[I", true)
  | 27 => ("ChargeYardModel", "bookedCard", "[I", true)
  | 28 => ("ChargeYardModel", "bookedFrom", "[I", true)
  | 29 => ("ChargeYardModel", "bookedTo", "[I", true)
  | 30 => ("ChargeYardModel", "sessions", "I", false)
  | 31 => ("ChargeYardModel", "socketOf", "[I", true)
  | 32 => ("ChargeYardModel", "carOf", "[I", true)
  | 33 => ("ChargeYardModel", "cardOf", "[I", true)
  | 34 => ("ChargeYardModel", "how", "[I", true)
  | 35 => ("ChargeYardModel", "energy", "[I", true)
  | 36 => ("ChargeYardModel", "latest", "[I", true)
  | 37 => ("ChargeYardModel", "values", "[I", true)
  | 38 => ("ChargeYardModel", "heard", "[I", true)
  | 39 => ("ChargeYardModel", "dayAll", "[I", true)
  | 40 => ("ChargeYardModel", "nightAll", "[I", true)
  | 41 => ("ChargeYardModel", "idleAll", "[I", true)
  | 42 => ("ChargeYardModel", "dayHeard", "[I", true)
  | 43 => ("ChargeYardModel", "nightHeard", "[I", true)
  | 44 => ("ChargeYardModel", "idleHeard", "[I", true)
  | 45 => ("ChargeYardModel", "kept", "[I", true)
  | 46 => ("ChargeYardModel", "billed", "[I", true)
  | 47 => ("ChargeYardModel", "isDisputed", "[Z", true)
  | 48 => ("ChargeYardModel", "bound", "[I", true)
  | _ => ("ChargeYardModel", "power", "[I", true)
def tyX10 : Nat → FieldType := fun k => match k with
  | 0 => .int
  | 1 => .int
  | 2 => .int
  | 3 => .int
  | 4 => .int
  | 5 => .int
  | 6 => .int
  | 7 => .array .int
  | 8 => .array .int
  | 9 => .array .boolean
  | 10 => .array .boolean
  | 11 => .array .int
  | 12 => .array .int
  | 13 => .int
  | 14 => .array .int
  | 15 => .array .int
  | 16 => .array .int
  | 17 => .int
  | 18 => .array .int
  | 19 => .array .int
  | 20 => .array .boolean
  | 21 => .array .boolean
  | 22 => .array .int
  | 23 => .array .int
  | 24 => .array .int
  | 25 => .array .int
  | 26 => .array .int
  | 27 => .array .int
  | 28 => .array .int
  | 29 => .array .int
  | 30 => .int
  | 31 => .array .int
  | 32 => .array .int
  | 33 => .array .int
  | 34 => .array .int
  | 35 => .array .int
  | 36 => .array .int
  | 37 => .array .int
  | 38 => .array .int
  | 39 => .array .int
  | 40 => .array .int
  | 41 => .array .int
  | 42 => .array .int
  | 43 => .array .int
  | 44 => .array .int
  | 45 => .array .int
  | 46 => .array .int
  | 47 => .array .boolean
  | 48 => .array .int
  | _ => .array .int
theorem nmX10 : ∀ a, a < 50 → ∀ b, b < 50 → a ≠ b → (TX10 a).2.1 ≠ (TX10 b).2.1 := by decide +kernel
theorem tyX10_ok : ∀ k, k < 50 → parseFieldDescriptor (TX10 k).2.2.1 = some (tyX10 k) := by decide +kernel
abbrev cX10_init : ByteArray := prog_12_method_1_code
def yX10_init : MethodName := ⟨RX10, "<init>", "()V"⟩
abbrev cX10_thrown : ByteArray := prog_12_method_2_code
def yX10_thrown : MethodName := ⟨RX10, "thrown", "()I"⟩
abbrev cX10_stop : ByteArray := prog_12_method_3_code
def yX10_stop : MethodName := ⟨RX10, "stop", "(I)I"⟩
abbrev cX10_refuse : ByteArray := prog_12_method_4_code
def yX10_refuse : MethodName := ⟨RX10, "refuse", "(I)Z"⟩
abbrev cX10_in : ByteArray := prog_12_method_5_code
def yX10_in : MethodName := ⟨RX10, "in", "(III)Z"⟩
abbrev cX10_isFirm : ByteArray := prog_12_method_6_code
def yX10_isFirm : MethodName := ⟨RX10, "isFirm", "(I)Z"⟩
abbrev cX10_isSocket : ByteArray := prog_12_method_7_code
def yX10_isSocket : MethodName := ⟨RX10, "isSocket", "(I)Z"⟩
abbrev cX10_isCard : ByteArray := prog_12_method_8_code
def yX10_isCard : MethodName := ⟨RX10, "isCard", "(I)Z"⟩
abbrev cX10_isSession : ByteArray := prog_12_method_9_code
def yX10_isSession : MethodName := ⟨RX10, "isSession", "(I)Z"⟩
abbrev cX10_socket : ByteArray := prog_12_method_10_code
def yX10_socket : MethodName := ⟨RX10, "socket", "(II)I"⟩
abbrev cX10_car : ByteArray := prog_12_method_11_code
def yX10_car : MethodName := ⟨RX10, "car", "(III)I"⟩
abbrev cX10_card : ByteArray := prog_12_method_12_code
def yX10_card : MethodName := ⟨RX10, "card", "(II)I"⟩
abbrev cX10_good : ByteArray := prog_12_method_13_code
def yX10_good : MethodName := ⟨RX10, "good", "(IZ)Z"⟩
abbrev cX10_set : ByteArray := prog_12_method_14_code
def yX10_set : MethodName := ⟨RX10, "set", "(II)I"⟩
abbrev cX10_fault : ByteArray := prog_12_method_15_code
def yX10_fault : MethodName := ⟨RX10, "fault", "(IZ)Z"⟩
abbrev cX10_hear : ByteArray := prog_12_method_16_code
def yX10_hear : MethodName := ⟨RX10, "hear", "(I)I"⟩
abbrev cX10_link : ByteArray := prog_12_method_17_code
def yX10_link : MethodName := ⟨RX10, "link", "(IZ)I"⟩
abbrev cX10_tariff : ByteArray := prog_12_method_18_code
def yX10_tariff : MethodName := ⟨RX10, "tariff", "(IIIII)V"⟩
abbrev cX10_goes : ByteArray := prog_12_method_19_code
def yX10_goes : MethodName := ⟨RX10, "goes", "(II)V"⟩
abbrev cX10_book : ByteArray := prog_12_method_20_code
def yX10_book : MethodName := ⟨RX10, "book", "(IIII)I"⟩
abbrev cX10_holding : ByteArray := prog_12_method_21_code
def yX10_holding : MethodName := ⟨RX10, "holding", "(I)I"⟩
abbrev cX10_lateGo : ByteArray := prog_12_method_22_code
def yX10_lateGo : MethodName := ⟨RX10, "lateGo", "()V"⟩
abbrev cX10_isAway : ByteArray := prog_12_method_23_code
def yX10_isAway : MethodName := ⟨RX10, "isAway", "(I)Z"⟩
abbrev cX10_plug : ByteArray := prog_12_method_24_code
def yX10_plug : MethodName := ⟨RX10, "plug", "(III)I"⟩
abbrev cX10_billBy : ByteArray := prog_12_method_25_code
def yX10_billBy : MethodName := ⟨RX10, "billBy", "(IIII)I"⟩
abbrev cX10_payFor : ByteArray := prog_12_method_26_code
def yX10_payFor : MethodName := ⟨RX10, "payFor", "(I)V"⟩
abbrev cX10_owe : ByteArray := prog_12_method_27_code
def yX10_owe : MethodName := ⟨RX10, "owe", "(II)V"⟩
abbrev cX10_unplug : ByteArray := prog_12_method_28_code
def yX10_unplug : MethodName := ⟨RX10, "unplug", "(I)I"⟩
abbrev cX10_wants : ByteArray := prog_12_method_29_code
def yX10_wants : MethodName := ⟨RX10, "wants", "(I)I"⟩
abbrev cX10_cap : ByteArray := prog_12_method_30_code
def yX10_cap : MethodName := ⟨RX10, "cap", "(I)I"⟩
abbrev cX10_isServed : ByteArray := prog_12_method_31_code
def yX10_isServed : MethodName := ⟨RX10, "isServed", "(I)Z"⟩
abbrev cX10_behind : ByteArray := prog_12_method_32_code
def yX10_behind : MethodName := ⟨RX10, "behind", "(I)I"⟩
abbrev cX10_isAhead : ByteArray := prog_12_method_33_code
def yX10_isAhead : MethodName := ⟨RX10, "isAhead", "(II)Z"⟩
abbrev cX10_serve : ByteArray := prog_12_method_34_code
def yX10_serve : MethodName := ⟨RX10, "serve", "(IZ)I"⟩
abbrev cX10_isOpen : ByteArray := prog_12_method_35_code
def yX10_isOpen : MethodName := ⟨RX10, "isOpen", "(I)Z"⟩
abbrev cX10_share : ByteArray := prog_12_method_36_code
def yX10_share : MethodName := ⟨RX10, "share", "(I)V"⟩
abbrev cX10_find : ByteArray := prog_12_method_37_code
def yX10_find : MethodName := ⟨RX10, "find", "()I"⟩
abbrev cX10_passOne : ByteArray := prog_12_method_38_code
def yX10_passOne : MethodName := ⟨RX10, "passOne", "()V"⟩
abbrev cX10_pass : ByteArray := prog_12_method_39_code
def yX10_pass : MethodName := ⟨RX10, "pass", "(I)I"⟩
abbrev cX10_of : ByteArray := prog_12_method_40_code
def yX10_of : MethodName := ⟨RX10, "of", "(II)I"⟩
abbrev cX10_charge : ByteArray := prog_12_method_41_code
def yX10_charge : MethodName := ⟨RX10, "charge", "(I)I"⟩
abbrev cX10_power : ByteArray := prog_12_method_42_code
def yX10_power : MethodName := ⟨RX10, "power", "(I)I"⟩
abbrev cX10_powerAnew : ByteArray := prog_12_method_43_code
def yX10_powerAnew : MethodName := ⟨RX10, "powerAnew", "(I)I"⟩
abbrev cX10_overloads : ByteArray := prog_12_method_44_code
def yX10_overloads : MethodName := ⟨RX10, "overloads", "()I"⟩
abbrev cX10_bill : ByteArray := prog_12_method_45_code
def yX10_bill : MethodName := ⟨RX10, "bill", "(I)I"⟩
abbrev cX10_billAnew : ByteArray := prog_12_method_46_code
def yX10_billAnew : MethodName := ⟨RX10, "billAnew", "(I)I"⟩
abbrev cX10_dispute : ByteArray := prog_12_method_47_code
def yX10_dispute : MethodName := ⟨RX10, "dispute", "(II)I"⟩
abbrev cX10_owes : ByteArray := prog_12_method_48_code
def yX10_owes : MethodName := ⟨RX10, "owes", "(I)I"⟩
abbrev cX10_account : ByteArray := prog_12_method_49_code
def yX10_account : MethodName := ⟨RX10, "account", "(I)I"⟩
def RJx145de : String := "java/io/Serializable"
def TJx145de : u_T := fun k => match k with
  | _ => ("", "", "", false)
def tyJx145de : Nat → FieldType := fun k => match k with
  | _ => .int
theorem nmJx145de : ∀ a, a < 0 → ∀ b, b < 0 → a ≠ b → (TJx145de a).2.1 ≠ (TJx145de b).2.1 := by decide +kernel
theorem tyJx145de_ok : ∀ k, k < 0 → parseFieldDescriptor (TJx145de k).2.2.1 = some (tyJx145de k) := by decide +kernel
def RJx8e188 : String := "java/lang/Cloneable"
def TJx8e188 : u_T := fun k => match k with
  | _ => ("", "", "", false)
def tyJx8e188 : Nat → FieldType := fun k => match k with
  | _ => .int
theorem nmJx8e188 : ∀ a, a < 0 → ∀ b, b < 0 → a ≠ b → (TJx8e188 a).2.1 ≠ (TJx8e188 b).2.1 := by decide +kernel
theorem tyJx8e188_ok : ∀ k, k < 0 → parseFieldDescriptor (TJx8e188 k).2.2.1 = some (tyJx8e188 k) := by decide +kernel
def RJxab1ab : String := "java/lang/Iterable"
def TJxab1ab : u_T := fun k => match k with
  | _ => ("", "", "", false)
def tyJxab1ab : Nat → FieldType := fun k => match k with
  | _ => .int
theorem nmJxab1ab : ∀ a, a < 0 → ∀ b, b < 0 → a ≠ b → (TJxab1ab a).2.1 ≠ (TJxab1ab b).2.1 := by decide +kernel
theorem tyJxab1ab_ok : ∀ k, k < 0 → parseFieldDescriptor (TJxab1ab k).2.2.1 = some (tyJxab1ab k) := by decide +kernel
def RJ9 : String := "java/lang/Math"
def TJ9 : u_T := fun k => match k with
  | _ => ("", "", "", false)
def tyJ9 : Nat → FieldType := fun k => match k with
  | _ => .int
theorem nmJ9 : ∀ a, a < 0 → ∀ b, b < 0 → a ≠ b → (TJ9 a).2.1 ≠ (TJ9 b).2.1 := by decide +kernel
theorem tyJ9_ok : ∀ k, k < 0 → parseFieldDescriptor (TJ9 k).2.2.1 = some (tyJ9 k) := by decide +kernel
abbrev cJ9_max_7cf53 : ByteArray := prog_20_method_65_code
def yJ9_max_7cf53 : MethodName := ⟨RJ9, "max", "(II)I"⟩
abbrev cJ9_min_7cf53 : ByteArray := prog_20_method_69_code
def yJ9_min_7cf53 : MethodName := ⟨RJ9, "min", "(II)I"⟩
def RJ0 : String := "java/lang/String"
def TJ0 : u_T := fun k => match k with
  | _ => ("", "", "", false)
def tyJ0 : Nat → FieldType := fun k => match k with
  | _ => .int
theorem nmJ0 : ∀ a, a < 0 → ∀ b, b < 0 → a ≠ b → (TJ0 a).2.1 ≠ (TJ0 b).2.1 := by decide +kernel
theorem tyJ0_ok : ∀ k, k < 0 → parseFieldDescriptor (TJ0 k).2.2.1 = some (tyJ0 k) := by decide +kernel
def RJ10 : String := "java/lang/System"
def TJ10 : u_T := fun k => match k with
  | _ => ("", "", "", false)
def tyJ10 : Nat → FieldType := fun k => match k with
  | _ => .int
theorem nmJ10 : ∀ a, a < 0 → ∀ b, b < 0 → a ≠ b → (TJ10 a).2.1 ≠ (TJ10 b).2.1 := by decide +kernel
theorem tyJ10_ok : ∀ k, k < 0 → parseFieldDescriptor (TJ10 k).2.2.1 = some (tyJ10 k) := by decide +kernel
def RJxa1e45 : String := "java/util/AbstractCollection"
def TJxa1e45 : u_T := fun k => match k with
  | _ => ("", "", "", false)
def tyJxa1e45 : Nat → FieldType := fun k => match k with
  | _ => .int
theorem nmJxa1e45 : ∀ a, a < 0 → ∀ b, b < 0 → a ≠ b → (TJxa1e45 a).2.1 ≠ (TJxa1e45 b).2.1 := by decide +kernel
theorem tyJxa1e45_ok : ∀ k, k < 0 → parseFieldDescriptor (TJxa1e45 k).2.2.1 = some (tyJxa1e45 k) := by decide +kernel
abbrev cJxa1e45_init_da8c8 : ByteArray := prog_25_method_1_code
def yJxa1e45_init_da8c8 : MethodName := ⟨RJxa1e45, "<init>", "()V"⟩
def RJxc12de : String := "java/util/AbstractList"
def TJxc12de : u_T := fun k => match k with
  | _ => ("", "", "", false)
def tyJxc12de : Nat → FieldType := fun k => match k with
  | _ => .int
theorem nmJxc12de : ∀ a, a < 0 → ∀ b, b < 0 → a ≠ b → (TJxc12de a).2.1 ≠ (TJxc12de b).2.1 := by decide +kernel
theorem tyJxc12de_ok : ∀ k, k < 0 → parseFieldDescriptor (TJxc12de k).2.2.1 = some (tyJxc12de k) := by decide +kernel
abbrev cJxc12de_init_da8c8 : ByteArray := prog_26_method_1_code
def yJxc12de_init_da8c8 : MethodName := ⟨RJxc12de, "<init>", "()V"⟩
def RJx4a65c : String := "java/util/ArrayList"
def TJx4a65c : u_T := fun k => match k with
  | 0 => ("java/util/AbstractList", "modCount", "I", false)
  | 1 => ("java/util/ArrayList", "elementData", "[Ljava/lang/Object;", false)
  | _ => ("java/util/ArrayList", "size", "I", false)
def tyJx4a65c : Nat → FieldType := fun k => match k with
  | 0 => .int
  | 1 => .array (.object "java/lang/Object")
  | _ => .int
theorem nmJx4a65c : ∀ a, a < 3 → ∀ b, b < 3 → a ≠ b → (TJx4a65c a).2.1 ≠ (TJx4a65c b).2.1 := by decide +kernel
theorem tyJx4a65c_ok : ∀ k, k < 3 → parseFieldDescriptor (TJx4a65c k).2.2.1 = some (tyJx4a65c k) := by decide +kernel
abbrev cJx4a65c_init_da8c8 : ByteArray := prog_27_method_2_code
def yJx4a65c_init_da8c8 : MethodName := ⟨RJx4a65c, "<init>", "()V"⟩
abbrev cJx4a65c_grow_92f84 : ByteArray := prog_27_method_6_code
def yJx4a65c_grow_92f84 : MethodName := ⟨RJx4a65c, "grow", "(I)[Ljava/lang/Object;"⟩
abbrev cJx4a65c_grow_d5877 : ByteArray := prog_27_method_7_code
def yJx4a65c_grow_d5877 : MethodName := ⟨RJx4a65c, "grow", "()[Ljava/lang/Object;"⟩
abbrev cJx4a65c_size_8abf5 : ByteArray := prog_27_method_8_code
def yJx4a65c_size_8abf5 : MethodName := ⟨RJx4a65c, "size", "()I"⟩
abbrev cJx4a65c_elementData_915e3 : ByteArray := prog_27_method_18_code
def yJx4a65c_elementData_915e3 : MethodName := ⟨RJx4a65c, "elementData", "(I)Ljava/lang/Object;"⟩
abbrev cJx4a65c_get_915e3 : ByteArray := prog_27_method_20_code
def yJx4a65c_get_915e3 : MethodName := ⟨RJx4a65c, "get", "(I)Ljava/lang/Object;"⟩
abbrev cJx4a65c_add_72be8 : ByteArray := prog_27_method_24_code
def yJx4a65c_add_72be8 : MethodName := ⟨RJx4a65c, "add", "(Ljava/lang/Object;[Ljava/lang/Object;I)V"⟩
abbrev cJx4a65c_add_9ea2d : ByteArray := prog_27_method_25_code
def yJx4a65c_add_9ea2d : MethodName := ⟨RJx4a65c, "add", "(Ljava/lang/Object;)Z"⟩
abbrev cJx4a65c_remove_915e3 : ByteArray := prog_27_method_29_code
def yJx4a65c_remove_915e3 : MethodName := ⟨RJx4a65c, "remove", "(I)Ljava/lang/Object;"⟩
abbrev cJx4a65c_fastRemove_b59b0 : ByteArray := prog_27_method_39_code
def yJx4a65c_fastRemove_b59b0 : MethodName := ⟨RJx4a65c, "fastRemove", "([Ljava/lang/Object;I)V"⟩
def RJ7 : String := "java/util/Arrays"
def TJ7 : u_T := fun k => match k with
  | _ => ("", "", "", false)
def tyJ7 : Nat → FieldType := fun k => match k with
  | _ => .int
theorem nmJ7 : ∀ a, a < 0 → ∀ b, b < 0 → a ≠ b → (TJ7 a).2.1 ≠ (TJ7 b).2.1 := by decide +kernel
theorem tyJ7_ok : ∀ k, k < 0 → parseFieldDescriptor (TJ7 k).2.2.1 = some (tyJ7 k) := by decide +kernel
abbrev cJ7_copyOf_1904c : ByteArray := prog_28_method_119_code
def yJ7_copyOf_1904c : MethodName := ⟨RJ7, "copyOf", "([Ljava/lang/Object;I)[Ljava/lang/Object;"⟩
abbrev cJ7_copyOf_6403c : ByteArray := prog_28_method_120_code
def yJ7_copyOf_6403c : MethodName := ⟨RJ7, "copyOf", "([Ljava/lang/Object;ILjava/lang/Class;)[Ljava/lang/Object;"⟩
abbrev cJ7_copyOf_59c91 : ByteArray := prog_28_method_123_code
def yJ7_copyOf_59c91 : MethodName := ⟨RJ7, "copyOf", "([II)[I"⟩
def RJx5ef63 : String := "java/util/Collection"
def TJx5ef63 : u_T := fun k => match k with
  | _ => ("", "", "", false)
def tyJx5ef63 : Nat → FieldType := fun k => match k with
  | _ => .int
theorem nmJx5ef63 : ∀ a, a < 0 → ∀ b, b < 0 → a ≠ b → (TJx5ef63 a).2.1 ≠ (TJx5ef63 b).2.1 := by decide +kernel
theorem tyJx5ef63_ok : ∀ k, k < 0 → parseFieldDescriptor (TJx5ef63 k).2.2.1 = some (tyJx5ef63 k) := by decide +kernel
def RJxbd725 : String := "java/util/List"
def TJxbd725 : u_T := fun k => match k with
  | _ => ("", "", "", false)
def tyJxbd725 : Nat → FieldType := fun k => match k with
  | _ => .int
theorem nmJxbd725 : ∀ a, a < 0 → ∀ b, b < 0 → a ≠ b → (TJxbd725 a).2.1 ≠ (TJxbd725 b).2.1 := by decide +kernel
theorem tyJxbd725_ok : ∀ k, k < 0 → parseFieldDescriptor (TJxbd725 k).2.2.1 = some (tyJxbd725 k) := by decide +kernel
def RJ15 : String := "java/util/Objects"
def TJ15 : u_T := fun k => match k with
  | _ => ("", "", "", false)
def tyJ15 : Nat → FieldType := fun k => match k with
  | _ => .int
theorem nmJ15 : ∀ a, a < 0 → ∀ b, b < 0 → a ≠ b → (TJ15 a).2.1 ≠ (TJ15 b).2.1 := by decide +kernel
theorem tyJ15_ok : ∀ k, k < 0 → parseFieldDescriptor (TJ15 k).2.2.1 = some (tyJ15 k) := by decide +kernel
abbrev cJ15_checkIndex_7cf53 : ByteArray := prog_31_method_17_code
def yJ15_checkIndex_7cf53 : MethodName := ⟨RJ15, "checkIndex", "(II)I"⟩
def RJxf0a74 : String := "java/util/RandomAccess"
def TJxf0a74 : u_T := fun k => match k with
  | _ => ("", "", "", false)
def tyJxf0a74 : Nat → FieldType := fun k => match k with
  | _ => .int
theorem nmJxf0a74 : ∀ a, a < 0 → ∀ b, b < 0 → a ≠ b → (TJxf0a74 a).2.1 ≠ (TJxf0a74 b).2.1 := by decide +kernel
theorem tyJxf0a74_ok : ∀ k, k < 0 → parseFieldDescriptor (TJxf0a74 k).2.2.1 = some (tyJxf0a74 k) := by decide +kernel
def RJxa66e6 : String := "java/util/SequencedCollection"
def TJxa66e6 : u_T := fun k => match k with
  | _ => ("", "", "", false)
def tyJxa66e6 : Nat → FieldType := fun k => match k with
  | _ => .int
theorem nmJxa66e6 : ∀ a, a < 0 → ∀ b, b < 0 → a ≠ b → (TJxa66e6 a).2.1 ≠ (TJxa66e6 b).2.1 := by decide +kernel
theorem tyJxa66e6_ok : ∀ k, k < 0 → parseFieldDescriptor (TJxa66e6 k).2.2.1 = some (tyJxa66e6 k) := by decide +kernel
def RJ8 : String := "jdk/internal/util/ArraysSupport"
def TJ8 : u_T := fun k => match k with
  | _ => ("", "", "", false)
def tyJ8 : Nat → FieldType := fun k => match k with
  | _ => .int
theorem nmJ8 : ∀ a, a < 0 → ∀ b, b < 0 → a ≠ b → (TJ8 a).2.1 ≠ (TJ8 b).2.1 := by decide +kernel
theorem tyJ8_ok : ∀ k, k < 0 → parseFieldDescriptor (TJ8 k).2.2.1 = some (tyJ8 k) := by decide +kernel
abbrev cJ8_newLength_cabcc : ByteArray := prog_34_method_27_code
def yJ8_newLength_cabcc : MethodName := ⟨RJ8, "newLength", "(III)I"⟩
abbrev cJ8_hugeLength_7cf53 : ByteArray := prog_34_method_28_code
def yJ8_hugeLength_7cf53 : MethodName := ⟨RJ8, "hugeLength", "(II)I"⟩
def RJ3 : String := "jdk/internal/util/Preconditions"
def TJ3 : u_T := fun k => match k with
  | _ => ("", "", "", false)
def tyJ3 : Nat → FieldType := fun k => match k with
  | _ => .int
theorem nmJ3 : ∀ a, a < 0 → ∀ b, b < 0 → a ≠ b → (TJ3 a).2.1 ≠ (TJ3 b).2.1 := by decide +kernel
theorem tyJ3_ok : ∀ k, k < 0 → parseFieldDescriptor (TJ3 k).2.2.1 = some (tyJ3 k) := by decide +kernel
abbrev cJ3_checkIndex_8e157 : ByteArray := prog_35_method_11_code
def yJ3_checkIndex_8e157 : MethodName := ⟨RJ3, "checkIndex", "(IILjava/util/function/BiFunction;)I"⟩
def RL : String := "ChargeYardLaw"
abbrev cL_socket : ByteArray := method_3_code
def yL_socket : MethodName := ⟨RL, "socket", "(LChargeYard;II[J)I"⟩
abbrev cL_car : ByteArray := method_4_code
def yL_car : MethodName := ⟨RL, "car", "(LChargeYard;III[J)I"⟩
abbrev cL_card : ByteArray := method_5_code
def yL_card : MethodName := ⟨RL, "card", "(LChargeYard;II[J)I"⟩
abbrev cL_good : ByteArray := method_6_code
def yL_good : MethodName := ⟨RL, "good", "(LChargeYard;IZ[J)I"⟩
abbrev cL_set : ByteArray := method_7_code
def yL_set : MethodName := ⟨RL, "set", "(LChargeYard;II[J)I"⟩
abbrev cL_fault : ByteArray := method_8_code
def yL_fault : MethodName := ⟨RL, "fault", "(LChargeYard;IZ[J)I"⟩
abbrev cL_link : ByteArray := method_9_code
def yL_link : MethodName := ⟨RL, "link", "(LChargeYard;IZ[J)I"⟩
abbrev cL_tariff : ByteArray := method_10_code
def yL_tariff : MethodName := ⟨RL, "tariff", "(LChargeYard;IIIII)I"⟩
abbrev cL_book : ByteArray := method_11_code
def yL_book : MethodName := ⟨RL, "book", "(LChargeYard;IIII[J)I"⟩
abbrev cL_plug : ByteArray := method_12_code
def yL_plug : MethodName := ⟨RL, "plug", "(LChargeYard;III[J)I"⟩
abbrev cL_unplug : ByteArray := method_13_code
def yL_unplug : MethodName := ⟨RL, "unplug", "(LChargeYard;I[J)I"⟩
abbrev cL_pass : ByteArray := method_14_code
def yL_pass : MethodName := ⟨RL, "pass", "(LChargeYard;I[J)I"⟩
abbrev cL_of : ByteArray := method_15_code
def yL_of : MethodName := ⟨RL, "of", "(LChargeYard;II[J)I"⟩
abbrev cL_charge : ByteArray := method_16_code
def yL_charge : MethodName := ⟨RL, "charge", "(LChargeYard;I[J)I"⟩
abbrev cL_power : ByteArray := method_17_code
def yL_power : MethodName := ⟨RL, "power", "(LChargeYard;I[J)I"⟩
abbrev cL_powerAnew : ByteArray := method_18_code
def yL_powerAnew : MethodName := ⟨RL, "powerAnew", "(LChargeYard;I[J)I"⟩
abbrev cL_bill : ByteArray := method_19_code
def yL_bill : MethodName := ⟨RL, "bill", "(LChargeYard;I[J)I"⟩
abbrev cL_billAnew : ByteArray := method_20_code
def yL_billAnew : MethodName := ⟨RL, "billAnew", "(LChargeYard;I[J)I"⟩
abbrev cL_dispute : ByteArray := method_21_code
def yL_dispute : MethodName := ⟨RL, "dispute", "(LChargeYard;II[J)I"⟩
abbrev cL_owes : ByteArray := method_22_code
def yL_owes : MethodName := ⟨RL, "owes", "(LChargeYard;I[J)I"⟩
abbrev cL_account : ByteArray := method_23_code
def yL_account : MethodName := ⟨RL, "account", "(LChargeYard;I[J)I"⟩
abbrev cL_law : ByteArray := code
def yL_law : MethodName := ⟨RL, "law", "([I)Z"⟩
abbrev vwCl : List vw_C := [(RJx4a65c, TJx4a65c, 3), (RX0, TX0, 3), (RX1, TX1, 5), (RX2, TX2, 5), (RX3, TX3, 2), (RX4, TX4, 14), (RX5, TX5, 8), (RX6, TX6, 4), (RX7, TX7, 4), (RX8, TX8, 5), (RX9, TX9, 11), (RX10, TX10, 50)]
end
section
/-! THE CLAIM OUT OF ONE WALK OF THE LAW'S BODY. Your part is whole_start (and what it stands on); all else here is the same for every law, but numbers. -/
def R_law : String := "ChargeYardLaw"
def lw_P (b : Addr) (xs : List Int32) (args : Array Value) (s : State) : Prop := args = #[.ref b] ∧ s.IntsAt b xs ∧ xs.length ≤ 3072 ∧ (Jvm.Cond.and given_1 narrow_1).before args s = true
def lw_Q (_ : Array Value) (s : State) (o : Outcome) (t : State) : Prop := o = .returned (some (.int 1)) ∧ Framed s o t [] 601024 7293034
def lw_Z (below : List Frame) (a : Array Value) (s : State) : State → Prop := fun t => ∃ o, t.status = .running ∧ Ended t below o ∧ lw_Q a s o t
/-- the law's own end, with 1 on the stack, nothing written that was there before, its room as the claim has it -/
theorem lw_ret {p : Program} {l : Launch} {e : Env} {s : State} {m : MethodId} {below : List Frame} {meth : Method} {c : Code} {b : Nat} (hx : p.tables.exec = Jvm.exec) (hb : c.code = code) (hr : meth.sig.returnType = ret) (hlocks : meth.locks = false) {pc : Nat} {H : Heap} {ls : Array Slot} (hdg : decode code pc = .ok (.ireturn, 1)) : W p l e room_1 s m #[Value.ref b] below meth c H [] 601024 7293034 (lw_Z below #[Value.ref b] s) (F0 m pc ls [.int 1]) := by
  intro T hT X
  obtain ⟨fs, hret, hrun, hended, hW, hframe⟩ := X.leave (v := some (.int 1)) (hlocks := hlocks) (fun h => by rw [hr] at h; cases h)
  have hmeth' : T.vm.method? m = some meth := X.method'
  refine ⟨T.setFrames fs, ?_, .returned (some (.int 1)), hrun, hended, rfl, ⟨_, rfl⟩, hW, hframe⟩
  jvm_step X.here [X.here.top, hx, hb, hdg, hmeth', hr, ret, narrow_b1]
  (try refine ⟨rfl, ?_⟩); (try refine ⟨rfl, ?_⟩)
  first | (intro acts; rw [hret _ acts rfl rfl rfl]) | rw [hret _ _ rfl rfl rfl]
  exact Steps.refl _
/-- what holds at the law's entry: the machine, the code, the tables' words (any of lw_tbl by 'hts w (by decide +kernel)'), the script of L ints xs at the cell b, what the Statement gives of the start (any of its parts by flat_of_before) -/
def lw_At (p : Program) (s : State) (m : MethodId) (meth : Method) (c : Code) (b L : Nat) (xs : Nat → Int32) : Prop :=
  p.tables.exec = Jvm.exec ∧ c.code = code ∧ meth.sig.returnType = ret ∧ c.maxLocals = 7 ∧ s.vm.findClass R_law = some m.cls ∧ (∀ w ∈ lw_tbl, w.before #[Value.ref b] s = true) ∧ va_X b L xs s s.heap ∧ b < s.heap.size ∧ meth.locks = false ∧ (Jvm.Cond.and given_1 narrow_1).before #[Value.ref b] s = true
end
section
/-! numbers: an int of the machine is 'zI z' of an integer z -/
def zI (z : Int) : Int32 := Int32.ofInt z
def zL (z : Int) : Int64 := Int64.ofInt z
def iv (z : Int) : Value := .int (zI z)
def lo (z : Int) : Value := .long (zL z)
def rv (r : Option Nat) : Value := va_rf r
abbrev rng (z : Int) : Prop := -2147483648 ≤ z ∧ z ≤ 2147483647
abbrev rngL (z : Int) : Prop := -9223372036854775808 ≤ z ∧ z ≤ 9223372036854775807
theorem zI_add (a b : Int) : zI a + zI b = zI (a + b) := (Int32.ofInt_add a b).symm
theorem zI_sub (a b : Int) : zI a - zI b = zI (a - b) := (Int32.ofInt_sub a b).symm
theorem zI_mul (a b : Int) : zI a * zI b = zI (a * b) := (Int32.ofInt_mul a b).symm
theorem zI_neg (a : Int) : -zI a = zI (-a) := (Int32.ofInt_neg a).symm
theorem zL_add (a b : Int) : zL a + zL b = zL (a + b) := (Int64.ofInt_add a b).symm
theorem zL_mul (a b : Int) : zL a * zL b = zL (a * b) := (Int64.ofInt_mul a b).symm
theorem zI_int {z : Int} (h : rng z) : (zI z).toInt = z := Int32.toInt_ofInt_of_le (by omega) (by omega)
theorem zL_int {z : Int} (h : rngL z) : (zL z).toInt = z := Int64.toInt_ofInt_of_le (by omega) (by omega)
theorem zI_of (x : Int32) : ∃ z : Int, rng z ∧ x = zI z := ⟨x.toInt, by have h1 := x.le_toInt; have h2 := x.toInt_lt; constructor <;> omega, (Int32.ofInt_toInt x).symm⟩
theorem zI_lt {a b : Int} (ha : rng a) (hb : rng b) : zI a < zI b ↔ a < b := by rw [Int32.lt_iff_toInt_lt, zI_int ha, zI_int hb]
theorem zI_le {a b : Int} (ha : rng a) (hb : rng b) : zI a ≤ zI b ↔ a ≤ b := by rw [Int32.le_iff_toInt_le, zI_int ha, zI_int hb]
theorem zI_eq {a b : Int} (ha : rng a) (hb : rng b) : zI a = zI b ↔ a = b := by rw [← Int32.toInt_inj, zI_int ha, zI_int hb]
theorem zL_lt {a b : Int} (ha : rngL a) (hb : rngL b) : zL a < zL b ↔ a < b := by rw [Int64.lt_iff_toInt_lt, zL_int ha, zL_int hb]
theorem zL_eq {a b : Int} (ha : rngL a) (hb : rngL b) : zL a = zL b ↔ a = b := by rw [← Int64.toInt_inj, zL_int ha, zL_int hb]
theorem zI_div {a b : Int} (ha : rng a) (hb : rng b) : zI a / zI b = zI (a.tdiv b) := by
  unfold zI
  exact (Int32.ofInt_tdiv (by show -2147483648 ≤ a; omega) (by show a ≤ 2147483647; omega) (by show -2147483648 ≤ b; omega) (by show b ≤ 2147483647; omega)).symm
theorem zL_div {a b : Int} (ha : rngL a) (hb : rngL b) : zL a / zL b = zL (a.tdiv b) := by
  unfold zL
  exact (Int64.ofInt_tdiv (by show -9223372036854775808 ≤ a; omega) (by show a ≤ 9223372036854775807; omega) (by show -9223372036854775808 ≤ b; omega) (by show b ≤ 9223372036854775807; omega)).symm
theorem tmod_eq (a b : Int) : a - a.tdiv b * b = a.tmod b := by
  have h := Int.mul_tdiv_add_tmod a b
  rw [Int.mul_comm] at h
  omega
theorem zI_long {a : Int} (ha : rng a) : (zI a).toInt64 = zL a := Int32.toInt64_ofInt (by show -2147483648 ≤ a; omega) (by show a ≤ 2147483647; omega)
theorem zL_i (a : Int) : (zL a).toInt32 = zI a := Int64.toInt32_ofInt
theorem zI_clamp {n : Nat} (h : n < 2 ^ 31) : (zI n).toNatClampNeg = n := by
  show (zI n).toInt.toNat = n
  rw [zI_int (by omega)]
  exact Int.toNat_natCast n
theorem zI_in {z : Int} {n : Nat} (h0 : 0 ≤ z) (h1 : z < n) (hn : n < 2 ^ 31) : vp_in (zI z) n := by
  have e : zI 0 = 0 := by decide
  have hz : rng z := by omega
  rintro (h | h)
  · rw [← e, zI_lt hz (by omega)] at h
    omega
  · have : (zI z).toNatClampNeg = z.toNat := by show (zI z).toInt.toNat = z.toNat; rw [zI_int hz]
    omega
theorem zI_ix {z : Int} (h0 : 0 ≤ z) (h1 : z ≤ 2147483647) : (zI z).toNatClampNeg = z.toNat := by
  show (zI z).toInt.toNat = z.toNat
  rw [zI_int (by omega)]
theorem iv_0 : iv 0 = .int 0 := rfl
end
section
/-! words: what the facts are said in -/
def TBL : List Cond := lw_tbl.filter goodWord
theorem TBL_sub {w : Cond} (h : w ∈ TBL) : w ∈ lw_tbl := (List.mem_filter.mp h).1
theorem TBL_good {ws : List Cond} (h : ∀ w ∈ ws, w ∈ TBL) : GoodIn TBL ws := fun w hw => ⟨h w hw, good_of_word (List.mem_filter.mp (h w hw)).2⟩
theorem TBL_mk {w : Cond} (i : Nat) (h : lw_tbl[i]? = some w) (g : goodWord w = true) : w ∈ TBL := List.mem_filter.mpr ⟨List.mem_of_getElem? h, g⟩
/-- the string constants of the throws -/
def strC : List (String × Nat × String) := [("ChargeYard", 280, "no such firm"), ("ChargeYard", 295, "an argument is out of its range"), ("ChargeYard", 297, "there are as many as there may be"), ("ChargeYard", 291, "no such card"), ("ChargeYard", 287, "no such socket"), ("ChargeYard", 140, "the card is not good, or the socket is booked then"), ("ChargeYard", 289, "no such car"), ("ChargeYard", 293, "no such session"), ("ChargeYard", 177, "it is unplugged"), ("ChargeYard", 212, "there are no minutes above 20000"), ("ChargeYard", 231, "what is out of its range"), ("ChargeYard", 262, "it is not billed, or was disputed")]
/-- words that the tables decide, but that aren't in TBL -/
def declL : List MethodName := [⟨"java/lang/RuntimeException", "<init>", "()V"⟩, ⟨"java/lang/RuntimeException", "<init>", "(Ljava/lang/String;)V"⟩, ⟨"java/lang/Exception", "<init>", "()V"⟩, ⟨"java/lang/Exception", "<init>", "(Ljava/lang/String;)V"⟩, ⟨"java/lang/Throwable", "<init>", "()V"⟩, ⟨"java/lang/Throwable", "<init>", "(Ljava/lang/String;)V"⟩, ⟨"java/lang/Object", "getClass", "()Ljava/lang/Class;"⟩]
def castL : List (String × String) := [("java/lang/IndexOutOfBoundsException", "java/lang/IndexOutOfBoundsException"), ("java/lang/IllegalArgumentException", "java/lang/IllegalArgumentException"), ("java/lang/IllegalStateException", "java/lang/IllegalStateException"), ("[I", "java/lang/Cloneable"), ("ChargeYard", "java/lang/Object"), ("java/util/ArrayList", "java/lang/Object"), ("ChargeYard$Firm", "java/lang/Object"), ("ChargeYard$Tariff", "java/lang/Object"), ("ChargeYardModel", "java/lang/Object"), ("java/lang/IndexOutOfBoundsException", "java/lang/Object"), ("java/lang/IllegalArgumentException", "java/lang/Object"), ("java/lang/IllegalStateException", "java/lang/Object"), ("ChargeYard$Socket", "java/lang/Object"), ("ChargeYard$Car", "java/lang/Object"), ("ChargeYard$Card", "java/lang/Object"), ("ChargeYard$Booking", "java/lang/Object"), ("ChargeYard$Session", "java/lang/Object"), ("ChargeYard$Values", "java/lang/Object"), ("ChargeYard$Tally", "java/lang/Object"), ("java/lang/Throwable", "java/lang/Object"), ("java/lang/String", "java/lang/Object"), ("[Ljava/lang/Object;", "java/lang/Object"), ("[B", "java/lang/Object"), ("[I", "java/lang/Object"), ("[Z", "java/lang/Object"), ("[J", "java/lang/Object")]
def nestL : List (String × Nat × MethodName × String) := [("ChargeYard", 49, ⟨"ChargeYard$Firm", "<init>", "()V"⟩, "ChargeYard"), ("ChargeYard$Values", 24, ⟨"ChargeYard$Tally", "<init>", "()V"⟩, "ChargeYard")]
def NW : List Cond := declL.map .declares ++ (castL.map (fun q => .castable q.1 q.2) ++ nestL.map (fun q => .methodLinkNest q.1 q.2.1 q.2.2.1 q.2.2.2))
/-- a decoded instruction, its length, the place behind it; with a target -/
def DI (cc : ByteArray) (pc : Nat) (i : Instr) (n pc' : Nat) : Prop := decode cc pc = .ok (i, n) ∧ pc + n = pc'
def DB (cc : ByteArray) (pc : Nat) (i : Instr) (off : Int) (n pc' tgt : Nat) : Prop := decode cc pc = .ok (i, n) ∧ pc + n = pc' ∧ (pc : Int) + off = (tgt : Int)
/-- which fields are references, a row a class of vwCl -/
def rTab : List (List Bool) := [[false, true, false], [true, false, false], [false, false, false, false, false], [true, false, false, false, false], [true, false], [true, true, true, true, true, false, false, false, false, false, false, false, false, false], [false, true, false, false, false, false, true, true], [false, false, false, false], [false, false, false, false], [false, true, false, false, true], [true, true, true, true, true, true, false, false, false, false, false], [false, false, false, false, false, false, false, true, true, true, true, true, true, false, true, true, true, false, true, true, true, true, true, true, true, true, true, true, true, true, false, true, true, true, true, true, true, true, true, true, true, true, true, true, true, true, true, true, true, true]]
def nF (c : Nat) : Nat := (rTab.getD c []).length
def isR (c k : Nat) : Bool := (rTab.getD c []).getD k false
/-- class ci of vwCl -/
def CL (ci : Nat) (Cn : String) (T : u_T) (N : Nat) (ty : Nat → FieldType) : Prop := vwCl[ci]? = some (Cn, T, N) ∧ ci < 19 ∧ nF ci = N ∧ (∀ k, k < N → parseFieldDescriptor (T k).2.2.1 = some (ty k)) ∧ (∀ a, a < N → ∀ b, b < N → a ≠ b → (T a).2.1 ≠ (T b).2.1) ∧ (∀ w ∈ u_ws Cn T N, w ∈ TBL) ∧ (∀ k, k < N → defaultValue (ty k) = if isR ci k then .null else .int 0)
/-- entry idx of own's constants is field k of class ci, f of the memory -/
def FD (own : String) (idx ci : Nat) (T : u_T) (N k f : Nat) (r : Bool) : Prop := k < N ∧ 64 * ci + k = f ∧ isR ci k = r ∧ ∃ ref, Cond.fieldLink own idx ref (T k).2.1 (T k).2.2.1 ∈ TBL ∧ (ref = (T k).1 ∨ Cond.sameField ref (T k).1 (T k).2.1 (T k).2.2.1 ∈ TBL)

/-- entry idx of own's constants is the class ci, to be made -/
def KN (own : String) (idx ci : Nat) (Cn : String) (N : Nat) : Prop := Cond.classLink own idx Cn ∈ TBL ∧ Cond.instantiable Cn N ∈ TBL ∧ Cond.initialized Cn ∈ TBL
/-- entry index of own's constants is the method y, called on an object of class ci; static; a constructor; a nest mate's private constructor -/
def KV (own : String) (index ci : Nat) (y : MethodName) (cy : ByteArray) (n : Nat) (ret : Option FieldType) (k : Nat) : Prop := (∃ T N, vwCl[ci]? = some (y.cls, T, N) ∧ ci < 19) ∧ Cond.methodLink own index y ∈ TBL ∧ Cond.instanceMethod y ∈ TBL ∧ Cond.selects y.cls y y ∈ TBL ∧ Cond.initialized y.cls ∈ TBL ∧ Cond.code y cy n ret ∈ TBL ∧ y.cls ≠ "java/lang/invoke/MethodHandle" ∧ y.cls ≠ "java/lang/invoke/VarHandle" ∧ (parseMethodDescriptor y.desc).map (fun d => d.parameters.length) = some k
def KS (own : String) (index : Nat) (y : MethodName) (cy : ByteArray) (n : Nat) (ret : Option FieldType) (k : Nat) : Prop := Cond.methodLink own index y ∈ TBL ∧ Cond.static y ∈ TBL ∧ Cond.initialized y.cls ∈ TBL ∧ Cond.code y cy n ret ∈ TBL ∧ y.cls ≠ "java/lang/invoke/MethodHandle" ∧ y.cls ≠ "java/lang/invoke/VarHandle" ∧ (parseMethodDescriptor y.desc).map (fun d => d.parameters.length) = some k
def KI (own : String) (index : Nat) (y : MethodName) (cy : ByteArray) (n : Nat) (k : Nat) : Prop := Cond.methodLink own index y ∈ TBL ∧ Cond.instanceMethod y ∈ TBL ∧ y.name = "<init>" ∧ Cond.initialized y.cls ∈ TBL ∧ Cond.code y cy n none ∈ TBL ∧ y.cls ≠ "java/lang/invoke/MethodHandle" ∧ y.cls ≠ "java/lang/invoke/VarHandle" ∧ (parseMethodDescriptor y.desc).map (fun d => d.parameters.length) = some k
def KM (own host : String) (index : Nat) (y : MethodName) (cy : ByteArray) (n : Nat) (k : Nat) : Prop := Cond.methodLinkNest own index y host ∈ NW ∧ Cond.instanceMethod y ∈ TBL ∧ y.name = "<init>" ∧ Cond.initialized y.cls ∈ TBL ∧ Cond.code y cy n none ∈ TBL ∧ y.cls ≠ "java/lang/invoke/MethodHandle" ∧ y.cls ≠ "java/lang/invoke/VarHandle" ∧ (parseMethodDescriptor y.desc).map (fun d => d.parameters.length) = some k
/-- 'throw new E("text")' in own: the words -/
def KT (own cls text : String) (ik is ic : Nat) : Prop := Bundle.fit cls = true ∧ (∀ n ∈ ["java/lang/RuntimeException", "java/lang/Exception"], Bundle.fit n = true) ∧ Cond.classLink own ik cls ∈ TBL ∧ Cond.initialized cls ∈ TBL ∧ (own, is, text) ∈ strC ∧ (∀ w ∈ vx_atS own ic cls ["java/lang/RuntimeException", "java/lang/Exception"], w ∈ TBL ∨ w ∈ NW) ∧ (∀ w ∈ Cond.classLink own ik cls :: Cond.initialized cls :: vx_atS own ic cls ["java/lang/RuntimeException", "java/lang/Exception"], vx_ot w = true)
end
section
theorem dX0_init_0 : DI cX0_init 0 (.aload_n 0) 1 1 := ⟨by decide +kernel, rfl⟩
theorem dX0_init_1 : DI cX0_init 1 (.invokespecial 3) 3 4 := ⟨by decide +kernel, rfl⟩
theorem dX0_init_4 : DI cX0_init 4 (.aload_n 0) 1 5 := ⟨by decide +kernel, rfl⟩
theorem dX0_init_5 : DI cX0_init 5 (.aload_n 1) 1 6 := ⟨by decide +kernel, rfl⟩
theorem dX0_init_6 : DI cX0_init 6 (.putfield 9) 3 9 := ⟨by decide +kernel, rfl⟩
theorem dX0_init_9 : DI cX0_init 9 (.aload_n 0) 1 10 := ⟨by decide +kernel, rfl⟩
theorem dX0_init_10 : DI cX0_init 10 (.iload_n 2) 1 11 := ⟨by decide +kernel, rfl⟩
theorem dX0_init_11 : DI cX0_init 11 (.putfield 15) 3 14 := ⟨by decide +kernel, rfl⟩
theorem dX0_init_14 : DI cX0_init 14 (.aload_n 0) 1 15 := ⟨by decide +kernel, rfl⟩
theorem dX0_init_15 : DI cX0_init 15 (.iload_n 3) 1 16 := ⟨by decide +kernel, rfl⟩
theorem dX0_init_16 : DI cX0_init 16 (.putfield 19) 3 19 := ⟨by decide +kernel, rfl⟩
theorem dX0_init_19 : DI cX0_init 19 (.return_) 1 20 := ⟨by decide +kernel, rfl⟩
theorem dX0_holdsAt_0 : DI cX0_holdsAt 0 (.iload_n 1) 1 1 := ⟨by decide +kernel, rfl⟩
theorem dX0_holdsAt_1 : DI cX0_holdsAt 1 (.aload_n 0) 1 2 := ⟨by decide +kernel, rfl⟩
theorem dX0_holdsAt_2 : DI cX0_holdsAt 2 (.getfield 15) 3 5 := ⟨by decide +kernel, rfl⟩
theorem dX0_holdsAt_5 : DB cX0_holdsAt 5 (.if_icmp .lt 15) (15) 3 8 20 := ⟨by decide +kernel, rfl, by decide⟩
theorem dX0_holdsAt_8 : DI cX0_holdsAt 8 (.aload_n 0) 1 9 := ⟨by decide +kernel, rfl⟩
theorem dX0_holdsAt_9 : DI cX0_holdsAt 9 (.iload_n 1) 1 10 := ⟨by decide +kernel, rfl⟩
theorem dX0_holdsAt_10 : DI cX0_holdsAt 10 (.invokevirtual 22) 3 13 := ⟨by decide +kernel, rfl⟩
theorem dX0_holdsAt_13 : DB cX0_holdsAt 13 (.ifCond .ne 7) (7) 3 16 20 := ⟨by decide +kernel, rfl, by decide⟩
theorem dX0_holdsAt_16 : DI cX0_holdsAt 16 (.iconst 1) 1 17 := ⟨by decide +kernel, rfl⟩
theorem dX0_holdsAt_17 : DB cX0_holdsAt 17 (.goto 4) (4) 3 20 21 := ⟨by decide +kernel, rfl, by decide⟩
theorem dX0_holdsAt_20 : DI cX0_holdsAt 20 (.iconst 0) 1 21 := ⟨by decide +kernel, rfl⟩
theorem dX0_holdsAt_21 : DI cX0_holdsAt 21 (.ireturn) 1 22 := ⟨by decide +kernel, rfl⟩
theorem dX0_isLateAt_0 : DI cX0_isLateAt 0 (.iload_n 1) 1 1 := ⟨by decide +kernel, rfl⟩
theorem dX0_isLateAt_1 : DI cX0_isLateAt 1 (.aload_n 0) 1 2 := ⟨by decide +kernel, rfl⟩
theorem dX0_isLateAt_2 : DI cX0_isLateAt 2 (.getfield 15) 3 5 := ⟨by decide +kernel, rfl⟩
theorem dX0_isLateAt_5 : DI cX0_isLateAt 5 (.isub) 1 6 := ⟨by decide +kernel, rfl⟩
theorem dX0_isLateAt_6 : DI cX0_isLateAt 6 (.bipush 15) 2 8 := ⟨by decide +kernel, rfl⟩
theorem dX0_isLateAt_8 : DB cX0_isLateAt 8 (.if_icmp .lt 7) (7) 3 11 15 := ⟨by decide +kernel, rfl, by decide⟩
theorem dX0_isLateAt_11 : DI cX0_isLateAt 11 (.iconst 1) 1 12 := ⟨by decide +kernel, rfl⟩
theorem dX0_isLateAt_12 : DB cX0_isLateAt 12 (.goto 4) (4) 3 15 16 := ⟨by decide +kernel, rfl, by decide⟩
theorem dX0_isLateAt_15 : DI cX0_isLateAt 15 (.iconst 0) 1 16 := ⟨by decide +kernel, rfl⟩
theorem dX0_isLateAt_16 : DI cX0_isLateAt 16 (.ireturn) 1 17 := ⟨by decide +kernel, rfl⟩
theorem dX1_init_0 : DI cX1_init 0 (.aload_n 0) 1 1 := ⟨by decide +kernel, rfl⟩
theorem dX1_init_1 : DI cX1_init 1 (.invokespecial 3) 3 4 := ⟨by decide +kernel, rfl⟩
theorem dX1_init_4 : DI cX1_init 4 (.aload_n 0) 1 5 := ⟨by decide +kernel, rfl⟩
theorem dX1_init_5 : DI cX1_init 5 (.iconst 0) 1 6 := ⟨by decide +kernel, rfl⟩
theorem dX1_init_6 : DI cX1_init 6 (.putfield 9) 3 9 := ⟨by decide +kernel, rfl⟩
theorem dX1_init_9 : DI cX1_init 9 (.aload_n 0) 1 10 := ⟨by decide +kernel, rfl⟩
theorem dX1_init_10 : DI cX1_init 10 (.iload_n 1) 1 11 := ⟨by decide +kernel, rfl⟩
theorem dX1_init_11 : DI cX1_init 11 (.putfield 15) 3 14 := ⟨by decide +kernel, rfl⟩
theorem dX1_init_14 : DI cX1_init 14 (.aload_n 0) 1 15 := ⟨by decide +kernel, rfl⟩
theorem dX1_init_15 : DI cX1_init 15 (.iload_n 2) 1 16 := ⟨by decide +kernel, rfl⟩
theorem dX1_init_16 : DI cX1_init 16 (.putfield 19) 3 19 := ⟨by decide +kernel, rfl⟩
theorem dX1_init_19 : DI cX1_init 19 (.aload_n 0) 1 20 := ⟨by decide +kernel, rfl⟩
theorem dX1_init_20 : DI cX1_init 20 (.iload_n 3) 1 21 := ⟨by decide +kernel, rfl⟩
theorem dX1_init_21 : DI cX1_init 21 (.putfield 22) 3 24 := ⟨by decide +kernel, rfl⟩
theorem dX1_init_24 : DI cX1_init 24 (.aload_n 0) 1 25 := ⟨by decide +kernel, rfl⟩
theorem dX1_init_25 : DI cX1_init 25 (.iload 4) 2 27 := ⟨by decide +kernel, rfl⟩
theorem dX1_init_27 : DI cX1_init 27 (.putfield 25) 3 30 := ⟨by decide +kernel, rfl⟩
theorem dX1_init_30 : DI cX1_init 30 (.return_) 1 31 := ⟨by decide +kernel, rfl⟩
theorem dX1_isFull_0 : DI cX1_isFull 0 (.aload_n 0) 1 1 := ⟨by decide +kernel, rfl⟩
theorem dX1_isFull_1 : DI cX1_isFull 1 (.getfield 22) 3 4 := ⟨by decide +kernel, rfl⟩
theorem dX1_isFull_4 : DI cX1_isFull 4 (.aload_n 0) 1 5 := ⟨by decide +kernel, rfl⟩
theorem dX1_isFull_5 : DI cX1_isFull 5 (.getfield 19) 3 8 := ⟨by decide +kernel, rfl⟩
theorem dX1_isFull_8 : DB cX1_isFull 8 (.if_icmp .lt 7) (7) 3 11 15 := ⟨by decide +kernel, rfl, by decide⟩
theorem dX1_isFull_11 : DI cX1_isFull 11 (.iconst 1) 1 12 := ⟨by decide +kernel, rfl⟩
theorem dX1_isFull_12 : DB cX1_isFull 12 (.goto 4) (4) 3 15 16 := ⟨by decide +kernel, rfl, by decide⟩
theorem dX1_isFull_15 : DI cX1_isFull 15 (.iconst 0) 1 16 := ⟨by decide +kernel, rfl⟩
theorem dX1_isFull_16 : DI cX1_isFull 16 (.ireturn) 1 17 := ⟨by decide +kernel, rfl⟩
theorem dX1_wants_0 : DI cX1_wants 0 (.bipush 10) 2 2 := ⟨by decide +kernel, rfl⟩
theorem dX1_wants_2 : DI cX1_wants 2 (.aload_n 0) 1 3 := ⟨by decide +kernel, rfl⟩
theorem dX1_wants_3 : DI cX1_wants 3 (.getfield 22) 3 6 := ⟨by decide +kernel, rfl⟩
theorem dX1_wants_6 : DI cX1_wants 6 (.imul) 1 7 := ⟨by decide +kernel, rfl⟩
theorem dX1_wants_7 : DI cX1_wants 7 (.bipush 8) 2 9 := ⟨by decide +kernel, rfl⟩
theorem dX1_wants_9 : DI cX1_wants 9 (.aload_n 0) 1 10 := ⟨by decide +kernel, rfl⟩
theorem dX1_wants_10 : DI cX1_wants 10 (.getfield 19) 3 13 := ⟨by decide +kernel, rfl⟩
theorem dX1_wants_13 : DI cX1_wants 13 (.imul) 1 14 := ⟨by decide +kernel, rfl⟩
theorem dX1_wants_14 : DB cX1_wants 14 (.if_icmp .lt 7) (7) 3 17 21 := ⟨by decide +kernel, rfl, by decide⟩
theorem dX1_wants_17 : DI cX1_wants 17 (.iconst 1) 1 18 := ⟨by decide +kernel, rfl⟩
theorem dX1_wants_18 : DB cX1_wants 18 (.goto 4) (4) 3 21 22 := ⟨by decide +kernel, rfl, by decide⟩
theorem dX1_wants_21 : DI cX1_wants 21 (.iconst 0) 1 22 := ⟨by decide +kernel, rfl⟩
theorem dX1_wants_22 : DI cX1_wants 22 (.istore_n 2) 1 23 := ⟨by decide +kernel, rfl⟩
theorem dX1_wants_23 : DI cX1_wants 23 (.iload_n 2) 1 24 := ⟨by decide +kernel, rfl⟩
theorem dX1_wants_24 : DB cX1_wants 24 (.ifCond .eq 12) (12) 3 27 36 := ⟨by decide +kernel, rfl, by decide⟩
theorem dX1_wants_27 : DI cX1_wants 27 (.aload_n 0) 1 28 := ⟨by decide +kernel, rfl⟩
theorem dX1_wants_28 : DI cX1_wants 28 (.getfield 25) 3 31 := ⟨by decide +kernel, rfl⟩
theorem dX1_wants_31 : DI cX1_wants 31 (.iconst 2) 1 32 := ⟨by decide +kernel, rfl⟩
theorem dX1_wants_32 : DI cX1_wants 32 (.idiv) 1 33 := ⟨by decide +kernel, rfl⟩
theorem dX1_wants_33 : DB cX1_wants 33 (.goto 7) (7) 3 36 40 := ⟨by decide +kernel, rfl, by decide⟩
theorem dX1_wants_36 : DI cX1_wants 36 (.aload_n 0) 1 37 := ⟨by decide +kernel, rfl⟩
theorem dX1_wants_37 : DI cX1_wants 37 (.getfield 25) 3 40 := ⟨by decide +kernel, rfl⟩
theorem dX1_wants_40 : DI cX1_wants 40 (.istore_n 3) 1 41 := ⟨by decide +kernel, rfl⟩
theorem dX1_wants_41 : DI cX1_wants 41 (.iload_n 1) 1 42 := ⟨by decide +kernel, rfl⟩
theorem dX1_wants_42 : DB cX1_wants 42 (.ifCond .ge 13) (13) 3 45 55 := ⟨by decide +kernel, rfl, by decide⟩
theorem dX1_wants_45 : DI cX1_wants 45 (.iload_n 3) 1 46 := ⟨by decide +kernel, rfl⟩
theorem dX1_wants_46 : DI cX1_wants 46 (.bipush 100) 2 48 := ⟨by decide +kernel, rfl⟩
theorem dX1_wants_48 : DI cX1_wants 48 (.iload_n 1) 1 49 := ⟨by decide +kernel, rfl⟩
theorem dX1_wants_49 : DI cX1_wants 49 (.iadd) 1 50 := ⟨by decide +kernel, rfl⟩
theorem dX1_wants_50 : DI cX1_wants 50 (.imul) 1 51 := ⟨by decide +kernel, rfl⟩
theorem dX1_wants_51 : DI cX1_wants 51 (.bipush 100) 2 53 := ⟨by decide +kernel, rfl⟩
theorem dX1_wants_53 : DI cX1_wants 53 (.idiv) 1 54 := ⟨by decide +kernel, rfl⟩
theorem dX1_wants_54 : DI cX1_wants 54 (.istore_n 3) 1 55 := ⟨by decide +kernel, rfl⟩
theorem dX1_wants_55 : DI cX1_wants 55 (.iload_n 3) 1 56 := ⟨by decide +kernel, rfl⟩
theorem dX1_wants_56 : DI cX1_wants 56 (.aload_n 0) 1 57 := ⟨by decide +kernel, rfl⟩
theorem dX1_wants_57 : DI cX1_wants 57 (.getfield 19) 3 60 := ⟨by decide +kernel, rfl⟩
theorem dX1_wants_60 : DI cX1_wants 60 (.aload_n 0) 1 61 := ⟨by decide +kernel, rfl⟩
theorem dX1_wants_61 : DI cX1_wants 61 (.getfield 22) 3 64 := ⟨by decide +kernel, rfl⟩
theorem dX1_wants_64 : DI cX1_wants 64 (.isub) 1 65 := ⟨by decide +kernel, rfl⟩
theorem dX1_wants_65 : DI cX1_wants 65 (.invokestatic 28) 3 68 := ⟨by decide +kernel, rfl⟩
theorem dX1_wants_68 : DI cX1_wants 68 (.ireturn) 1 69 := ⟨by decide +kernel, rfl⟩
theorem dX2_init_0 : DI cX2_init 0 (.aload_n 0) 1 1 := ⟨by decide +kernel, rfl⟩
theorem dX2_init_1 : DI cX2_init 1 (.invokespecial 1) 3 4 := ⟨by decide +kernel, rfl⟩
theorem dX2_init_4 : DI cX2_init 4 (.aload_n 0) 1 5 := ⟨by decide +kernel, rfl⟩
theorem dX2_init_5 : DI cX2_init 5 (.iconst 1) 1 6 := ⟨by decide +kernel, rfl⟩
theorem dX2_init_6 : DI cX2_init 6 (.putfield 7) 3 9 := ⟨by decide +kernel, rfl⟩
theorem dX2_init_9 : DI cX2_init 9 (.aload_n 0) 1 10 := ⟨by decide +kernel, rfl⟩
theorem dX2_init_10 : DI cX2_init 10 (.iconst 0) 1 11 := ⟨by decide +kernel, rfl⟩
theorem dX2_init_11 : DI cX2_init 11 (.putfield 13) 3 14 := ⟨by decide +kernel, rfl⟩
theorem dX2_init_14 : DI cX2_init 14 (.aload_n 0) 1 15 := ⟨by decide +kernel, rfl⟩
theorem dX2_init_15 : DI cX2_init 15 (.iconst 0) 1 16 := ⟨by decide +kernel, rfl⟩
theorem dX2_init_16 : DI cX2_init 16 (.putfield 16) 3 19 := ⟨by decide +kernel, rfl⟩
theorem dX2_init_19 : DI cX2_init 19 (.aload_n 0) 1 20 := ⟨by decide +kernel, rfl⟩
theorem dX2_init_20 : DI cX2_init 20 (.aload_n 1) 1 21 := ⟨by decide +kernel, rfl⟩
theorem dX2_init_21 : DI cX2_init 21 (.putfield 20) 3 24 := ⟨by decide +kernel, rfl⟩
theorem dX2_init_24 : DI cX2_init 24 (.aload_n 0) 1 25 := ⟨by decide +kernel, rfl⟩
theorem dX2_init_25 : DI cX2_init 25 (.iload_n 2) 1 26 := ⟨by decide +kernel, rfl⟩
theorem dX2_init_26 : DI cX2_init 26 (.putfield 24) 3 29 := ⟨by decide +kernel, rfl⟩
theorem dX2_init_29 : DI cX2_init 29 (.return_) 1 30 := ⟨by decide +kernel, rfl⟩
theorem dX3_init_0 : DI cX3_init 0 (.aload_n 0) 1 1 := ⟨by decide +kernel, rfl⟩
theorem dX3_init_1 : DI cX3_init 1 (.invokespecial 1) 3 4 := ⟨by decide +kernel, rfl⟩
theorem dX3_init_4 : DI cX3_init 4 (.aload_n 0) 1 5 := ⟨by decide +kernel, rfl⟩
theorem dX3_init_5 : DI cX3_init 5 (.new 7) 3 8 := ⟨by decide +kernel, rfl⟩
theorem dX3_init_8 : DI cX3_init 8 (.dup) 1 9 := ⟨by decide +kernel, rfl⟩
theorem dX3_init_9 : DI cX3_init 9 (.iconst 0) 1 10 := ⟨by decide +kernel, rfl⟩
theorem dX3_init_10 : DI cX3_init 10 (.iconst 0) 1 11 := ⟨by decide +kernel, rfl⟩
theorem dX3_init_11 : DI cX3_init 11 (.iconst 0) 1 12 := ⟨by decide +kernel, rfl⟩
theorem dX3_init_12 : DI cX3_init 12 (.iconst 0) 1 13 := ⟨by decide +kernel, rfl⟩
theorem dX3_init_13 : DI cX3_init 13 (.invokespecial 9) 3 16 := ⟨by decide +kernel, rfl⟩
theorem dX3_init_16 : DI cX3_init 16 (.putfield 12) 3 19 := ⟨by decide +kernel, rfl⟩
theorem dX3_init_19 : DI cX3_init 19 (.aload_n 0) 1 20 := ⟨by decide +kernel, rfl⟩
theorem dX3_init_20 : DI cX3_init 20 (.iconst 0) 1 21 := ⟨by decide +kernel, rfl⟩
theorem dX3_init_21 : DI cX3_init 21 (.putfield 18) 3 24 := ⟨by decide +kernel, rfl⟩
theorem dX3_init_24 : DI cX3_init 24 (.return_) 1 25 := ⟨by decide +kernel, rfl⟩
theorem dX4_init_0 : DI cX4_init 0 (.aload_n 0) 1 1 := ⟨by decide +kernel, rfl⟩
theorem dX4_init_1 : DI cX4_init 1 (.invokespecial 3) 3 4 := ⟨by decide +kernel, rfl⟩
theorem dX4_init_4 : DI cX4_init 4 (.aload_n 0) 1 5 := ⟨by decide +kernel, rfl⟩
theorem dX4_init_5 : DI cX4_init 5 (.iconst 0) 1 6 := ⟨by decide +kernel, rfl⟩
theorem dX4_init_6 : DI cX4_init 6 (.putfield 9) 3 9 := ⟨by decide +kernel, rfl⟩
theorem dX4_init_9 : DI cX4_init 9 (.aload_n 0) 1 10 := ⟨by decide +kernel, rfl⟩
theorem dX4_init_10 : DI cX4_init 10 (.iconst 0) 1 11 := ⟨by decide +kernel, rfl⟩
theorem dX4_init_11 : DI cX4_init 11 (.putfield 15) 3 14 := ⟨by decide +kernel, rfl⟩
theorem dX4_init_14 : DI cX4_init 14 (.aload_n 0) 1 15 := ⟨by decide +kernel, rfl⟩
theorem dX4_init_15 : DI cX4_init 15 (.iconst 0) 1 16 := ⟨by decide +kernel, rfl⟩
theorem dX4_init_16 : DI cX4_init 16 (.putfield 18) 3 19 := ⟨by decide +kernel, rfl⟩
theorem dX4_init_19 : DI cX4_init 19 (.aload_n 0) 1 20 := ⟨by decide +kernel, rfl⟩
theorem dX4_init_20 : DI cX4_init 20 (.iconst 0) 1 21 := ⟨by decide +kernel, rfl⟩
theorem dX4_init_21 : DI cX4_init 21 (.putfield 21) 3 24 := ⟨by decide +kernel, rfl⟩
theorem dX4_init_24 : DI cX4_init 24 (.aload_n 0) 1 25 := ⟨by decide +kernel, rfl⟩
theorem dX4_init_25 : DI cX4_init 25 (.iconst 0) 1 26 := ⟨by decide +kernel, rfl⟩
theorem dX4_init_26 : DI cX4_init 26 (.putfield 25) 3 29 := ⟨by decide +kernel, rfl⟩
theorem dX4_init_29 : DI cX4_init 29 (.aload_n 0) 1 30 := ⟨by decide +kernel, rfl⟩
theorem dX4_init_30 : DI cX4_init 30 (.iconst 0) 1 31 := ⟨by decide +kernel, rfl⟩
theorem dX4_init_31 : DI cX4_init 31 (.putfield 28) 3 34 := ⟨by decide +kernel, rfl⟩
theorem dX4_init_34 : DI cX4_init 34 (.aload_n 0) 1 35 := ⟨by decide +kernel, rfl⟩
theorem dX4_init_35 : DI cX4_init 35 (.iconst 0) 1 36 := ⟨by decide +kernel, rfl⟩
theorem dX4_init_36 : DI cX4_init 36 (.putfield 31) 3 39 := ⟨by decide +kernel, rfl⟩
theorem dX4_init_39 : DI cX4_init 39 (.aload_n 0) 1 40 := ⟨by decide +kernel, rfl⟩
theorem dX4_init_40 : DI cX4_init 40 (.iconst 0) 1 41 := ⟨by decide +kernel, rfl⟩
theorem dX4_init_41 : DI cX4_init 41 (.putfield 34) 3 44 := ⟨by decide +kernel, rfl⟩
theorem dX4_init_44 : DI cX4_init 44 (.aload_n 0) 1 45 := ⟨by decide +kernel, rfl⟩
theorem dX4_init_45 : DI cX4_init 45 (.aload_n 1) 1 46 := ⟨by decide +kernel, rfl⟩
theorem dX4_init_46 : DI cX4_init 46 (.putfield 37) 3 49 := ⟨by decide +kernel, rfl⟩
theorem dX4_init_49 : DI cX4_init 49 (.aload_n 0) 1 50 := ⟨by decide +kernel, rfl⟩
theorem dX4_init_50 : DI cX4_init 50 (.aload_n 2) 1 51 := ⟨by decide +kernel, rfl⟩
theorem dX4_init_51 : DI cX4_init 51 (.putfield 41) 3 54 := ⟨by decide +kernel, rfl⟩
theorem dX4_init_54 : DI cX4_init 54 (.aload_n 0) 1 55 := ⟨by decide +kernel, rfl⟩
theorem dX4_init_55 : DI cX4_init 55 (.aload_n 3) 1 56 := ⟨by decide +kernel, rfl⟩
theorem dX4_init_56 : DI cX4_init 56 (.putfield 45) 3 59 := ⟨by decide +kernel, rfl⟩
theorem dX4_init_59 : DI cX4_init 59 (.aload_n 0) 1 60 := ⟨by decide +kernel, rfl⟩
theorem dX4_init_60 : DI cX4_init 60 (.aload_n 1) 1 61 := ⟨by decide +kernel, rfl⟩
theorem dX4_init_61 : DI cX4_init 61 (.getfield 49) 3 64 := ⟨by decide +kernel, rfl⟩
theorem dX4_init_64 : DI cX4_init 64 (.getfield 55) 3 67 := ⟨by decide +kernel, rfl⟩
theorem dX4_init_67 : DI cX4_init 67 (.putfield 61) 3 70 := ⟨by decide +kernel, rfl⟩
theorem dX4_init_70 : DI cX4_init 70 (.aload_n 0) 1 71 := ⟨by decide +kernel, rfl⟩
theorem dX4_init_71 : DI cX4_init 71 (.new 62) 3 74 := ⟨by decide +kernel, rfl⟩
theorem dX4_init_74 : DI cX4_init 74 (.dup) 1 75 := ⟨by decide +kernel, rfl⟩
theorem dX4_init_75 : DI cX4_init 75 (.iload 4) 2 77 := ⟨by decide +kernel, rfl⟩
theorem dX4_init_77 : DI cX4_init 77 (.invokespecial 64) 3 80 := ⟨by decide +kernel, rfl⟩
theorem dX4_init_80 : DI cX4_init 80 (.putfield 67) 3 83 := ⟨by decide +kernel, rfl⟩
theorem dX4_init_83 : DI cX4_init 83 (.aload_n 0) 1 84 := ⟨by decide +kernel, rfl⟩
theorem dX4_init_84 : DI cX4_init 84 (.aload_n 1) 1 85 := ⟨by decide +kernel, rfl⟩
theorem dX4_init_85 : DI cX4_init 85 (.getfield 71) 3 88 := ⟨by decide +kernel, rfl⟩
theorem dX4_init_88 : DB cX4_init 88 (.ifCond .ne 7) (7) 3 91 95 := ⟨by decide +kernel, rfl, by decide⟩
theorem dX4_init_91 : DI cX4_init 91 (.iconst 1) 1 92 := ⟨by decide +kernel, rfl⟩
theorem dX4_init_92 : DB cX4_init 92 (.goto 4) (4) 3 95 96 := ⟨by decide +kernel, rfl, by decide⟩
theorem dX4_init_95 : DI cX4_init 95 (.iconst 0) 1 96 := ⟨by decide +kernel, rfl⟩
theorem dX4_init_96 : DI cX4_init 96 (.putfield 74) 3 99 := ⟨by decide +kernel, rfl⟩
theorem dX4_init_99 : DI cX4_init 99 (.return_) 1 100 := ⟨by decide +kernel, rfl⟩
theorem dX4_boundIn_0 : DI cX4_boundIn 0 (.aload_n 0) 1 1 := ⟨by decide +kernel, rfl⟩
theorem dX4_boundIn_1 : DI cX4_boundIn 1 (.getfield 37) 3 4 := ⟨by decide +kernel, rfl⟩
theorem dX4_boundIn_4 : DI cX4_boundIn 4 (.getfield 77) 3 7 := ⟨by decide +kernel, rfl⟩
theorem dX4_boundIn_7 : DB cX4_boundIn 7 (.ifCond .eq 7) (7) 3 10 14 := ⟨by decide +kernel, rfl, by decide⟩
theorem dX4_boundIn_10 : DI cX4_boundIn 10 (.iconst 0) 1 11 := ⟨by decide +kernel, rfl⟩
theorem dX4_boundIn_11 : DB cX4_boundIn 11 (.goto 21) (21) 3 14 32 := ⟨by decide +kernel, rfl, by decide⟩
theorem dX4_boundIn_14 : DI cX4_boundIn 14 (.aload_n 0) 1 15 := ⟨by decide +kernel, rfl⟩
theorem dX4_boundIn_15 : DI cX4_boundIn 15 (.getfield 41) 3 18 := ⟨by decide +kernel, rfl⟩
theorem dX4_boundIn_18 : DI cX4_boundIn 18 (.iload_n 1) 1 19 := ⟨by decide +kernel, rfl⟩
theorem dX4_boundIn_19 : DI cX4_boundIn 19 (.invokevirtual 80) 3 22 := ⟨by decide +kernel, rfl⟩
theorem dX4_boundIn_22 : DI cX4_boundIn 22 (.aload_n 0) 1 23 := ⟨by decide +kernel, rfl⟩
theorem dX4_boundIn_23 : DI cX4_boundIn 23 (.getfield 37) 3 26 := ⟨by decide +kernel, rfl⟩
theorem dX4_boundIn_26 : DI cX4_boundIn 26 (.getfield 86) 3 29 := ⟨by decide +kernel, rfl⟩
theorem dX4_boundIn_29 : DI cX4_boundIn 29 (.invokestatic 89) 3 32 := ⟨by decide +kernel, rfl⟩
theorem dX4_boundIn_32 : DI cX4_boundIn 32 (.ireturn) 1 33 := ⟨by decide +kernel, rfl⟩
theorem dX4_mostWhileDown_0 : DI cX4_mostWhileDown 0 (.iload_n 1) 1 1 := ⟨by decide +kernel, rfl⟩
theorem dX4_mostWhileDown_1 : DI cX4_mostWhileDown 1 (.aload_n 0) 1 2 := ⟨by decide +kernel, rfl⟩
theorem dX4_mostWhileDown_2 : DI cX4_mostWhileDown 2 (.getfield 37) 3 5 := ⟨by decide +kernel, rfl⟩
theorem dX4_mostWhileDown_5 : DI cX4_mostWhileDown 5 (.getfield 95) 3 8 := ⟨by decide +kernel, rfl⟩
theorem dX4_mostWhileDown_8 : DI cX4_mostWhileDown 8 (.isub) 1 9 := ⟨by decide +kernel, rfl⟩
theorem dX4_mostWhileDown_9 : DI cX4_mostWhileDown 9 (.iconst 5) 1 10 := ⟨by decide +kernel, rfl⟩
theorem dX4_mostWhileDown_10 : DB cX4_mostWhileDown 10 (.if_icmp .ge 7) (7) 3 13 17 := ⟨by decide +kernel, rfl, by decide⟩
theorem dX4_mostWhileDown_13 : DI cX4_mostWhileDown 13 (.iconst 1) 1 14 := ⟨by decide +kernel, rfl⟩
theorem dX4_mostWhileDown_14 : DB cX4_mostWhileDown 14 (.goto 4) (4) 3 17 18 := ⟨by decide +kernel, rfl, by decide⟩
theorem dX4_mostWhileDown_17 : DI cX4_mostWhileDown 17 (.iconst 0) 1 18 := ⟨by decide +kernel, rfl⟩
theorem dX4_mostWhileDown_18 : DI cX4_mostWhileDown 18 (.istore_n 2) 1 19 := ⟨by decide +kernel, rfl⟩
theorem dX4_mostWhileDown_19 : DI cX4_mostWhileDown 19 (.iload_n 2) 1 20 := ⟨by decide +kernel, rfl⟩
theorem dX4_mostWhileDown_20 : DB cX4_mostWhileDown 20 (.ifCond .eq 17) (17) 3 23 37 := ⟨by decide +kernel, rfl, by decide⟩
theorem dX4_mostWhileDown_23 : DI cX4_mostWhileDown 23 (.aload_n 0) 1 24 := ⟨by decide +kernel, rfl⟩
theorem dX4_mostWhileDown_24 : DI cX4_mostWhileDown 24 (.getfield 74) 3 27 := ⟨by decide +kernel, rfl⟩
theorem dX4_mostWhileDown_27 : DB cX4_mostWhileDown 27 (.ifCond .ne 10) (10) 3 30 37 := ⟨by decide +kernel, rfl, by decide⟩
theorem dX4_mostWhileDown_30 : DI cX4_mostWhileDown 30 (.aload_n 0) 1 31 := ⟨by decide +kernel, rfl⟩
theorem dX4_mostWhileDown_31 : DI cX4_mostWhileDown 31 (.getfield 18) 3 34 := ⟨by decide +kernel, rfl⟩
theorem dX4_mostWhileDown_34 : DB cX4_mostWhileDown 34 (.goto 6) (6) 3 37 40 := ⟨by decide +kernel, rfl, by decide⟩
theorem dX4_mostWhileDown_37 : DI cX4_mostWhileDown 37 (.sipush 1400) 3 40 := ⟨by decide +kernel, rfl⟩
theorem dX4_mostWhileDown_40 : DI cX4_mostWhileDown 40 (.ireturn) 1 41 := ⟨by decide +kernel, rfl⟩
theorem dX4_takesMore_0 : DI cX4_takesMore 0 (.aload_n 0) 1 1 := ⟨by decide +kernel, rfl⟩
theorem dX4_takesMore_1 : DI cX4_takesMore 1 (.getfield 37) 3 4 := ⟨by decide +kernel, rfl⟩
theorem dX4_takesMore_4 : DI cX4_takesMore 4 (.getfield 71) 3 7 := ⟨by decide +kernel, rfl⟩
theorem dX4_takesMore_7 : DB cX4_takesMore 7 (.ifCond .eq 28) (28) 3 10 35 := ⟨by decide +kernel, rfl, by decide⟩
theorem dX4_takesMore_10 : DI cX4_takesMore 10 (.aload_n 0) 1 11 := ⟨by decide +kernel, rfl⟩
theorem dX4_takesMore_11 : DI cX4_takesMore 11 (.getfield 34) 3 14 := ⟨by decide +kernel, rfl⟩
theorem dX4_takesMore_14 : DI cX4_takesMore 14 (.sipush 1400) 3 17 := ⟨by decide +kernel, rfl⟩
theorem dX4_takesMore_17 : DB cX4_takesMore 17 (.if_icmp .lt 18) (18) 3 20 35 := ⟨by decide +kernel, rfl, by decide⟩
theorem dX4_takesMore_20 : DI cX4_takesMore 20 (.aload_n 0) 1 21 := ⟨by decide +kernel, rfl⟩
theorem dX4_takesMore_21 : DI cX4_takesMore 21 (.getfield 34) 3 24 := ⟨by decide +kernel, rfl⟩
theorem dX4_takesMore_24 : DI cX4_takesMore 24 (.aload_n 0) 1 25 := ⟨by decide +kernel, rfl⟩
theorem dX4_takesMore_25 : DI cX4_takesMore 25 (.getfield 31) 3 28 := ⟨by decide +kernel, rfl⟩
theorem dX4_takesMore_28 : DB cX4_takesMore 28 (.if_icmp .ge 7) (7) 3 31 35 := ⟨by decide +kernel, rfl, by decide⟩
theorem dX4_takesMore_31 : DI cX4_takesMore 31 (.iconst 1) 1 32 := ⟨by decide +kernel, rfl⟩
theorem dX4_takesMore_32 : DB cX4_takesMore 32 (.goto 4) (4) 3 35 36 := ⟨by decide +kernel, rfl, by decide⟩
theorem dX4_takesMore_35 : DI cX4_takesMore 35 (.iconst 0) 1 36 := ⟨by decide +kernel, rfl⟩
theorem dX4_takesMore_36 : DI cX4_takesMore 36 (.ireturn) 1 37 := ⟨by decide +kernel, rfl⟩
theorem dX4_isOfTwoFirms_0 : DI cX4_isOfTwoFirms 0 (.aload_n 0) 1 1 := ⟨by decide +kernel, rfl⟩
theorem dX4_isOfTwoFirms_1 : DI cX4_isOfTwoFirms 1 (.getfield 37) 3 4 := ⟨by decide +kernel, rfl⟩
theorem dX4_isOfTwoFirms_4 : DI cX4_isOfTwoFirms 4 (.getfield 49) 3 7 := ⟨by decide +kernel, rfl⟩
theorem dX4_isOfTwoFirms_7 : DI cX4_isOfTwoFirms 7 (.aload_n 0) 1 8 := ⟨by decide +kernel, rfl⟩
theorem dX4_isOfTwoFirms_8 : DI cX4_isOfTwoFirms 8 (.getfield 45) 3 11 := ⟨by decide +kernel, rfl⟩
theorem dX4_isOfTwoFirms_11 : DI cX4_isOfTwoFirms 11 (.getfield 98) 3 14 := ⟨by decide +kernel, rfl⟩
theorem dX4_isOfTwoFirms_14 : DB cX4_isOfTwoFirms 14 (.if_acmp .eq 7) (7) 3 17 21 := ⟨by decide +kernel, rfl, by decide⟩
theorem dX4_isOfTwoFirms_17 : DI cX4_isOfTwoFirms 17 (.iconst 1) 1 18 := ⟨by decide +kernel, rfl⟩
theorem dX4_isOfTwoFirms_18 : DB cX4_isOfTwoFirms 18 (.goto 4) (4) 3 21 22 := ⟨by decide +kernel, rfl, by decide⟩
theorem dX4_isOfTwoFirms_21 : DI cX4_isOfTwoFirms 21 (.iconst 0) 1 22 := ⟨by decide +kernel, rfl⟩
theorem dX4_isOfTwoFirms_22 : DI cX4_isOfTwoFirms 22 (.ireturn) 1 23 := ⟨by decide +kernel, rfl⟩
theorem dX4_billHeard_0 : DI cX4_billHeard 0 (.aload_n 0) 1 1 := ⟨by decide +kernel, rfl⟩
theorem dX4_billHeard_1 : DI cX4_billHeard 1 (.getfield 67) 3 4 := ⟨by decide +kernel, rfl⟩
theorem dX4_billHeard_4 : DI cX4_billHeard 4 (.getfield 101) 3 7 := ⟨by decide +kernel, rfl⟩
theorem dX4_billHeard_7 : DI cX4_billHeard 7 (.aload_n 0) 1 8 := ⟨by decide +kernel, rfl⟩
theorem dX4_billHeard_8 : DI cX4_billHeard 8 (.getfield 61) 3 11 := ⟨by decide +kernel, rfl⟩
theorem dX4_billHeard_11 : DI cX4_billHeard 11 (.invokevirtual 105) 3 14 := ⟨by decide +kernel, rfl⟩
theorem dX4_billHeard_14 : DI cX4_billHeard 14 (.ireturn) 1 15 := ⟨by decide +kernel, rfl⟩
theorem dX4_billAll_0 : DI cX4_billAll 0 (.aload_n 0) 1 1 := ⟨by decide +kernel, rfl⟩
theorem dX4_billAll_1 : DI cX4_billAll 1 (.getfield 67) 3 4 := ⟨by decide +kernel, rfl⟩
theorem dX4_billAll_4 : DI cX4_billAll 4 (.invokevirtual 111) 3 7 := ⟨by decide +kernel, rfl⟩
theorem dX4_billAll_7 : DI cX4_billAll 7 (.aload_n 0) 1 8 := ⟨by decide +kernel, rfl⟩
theorem dX4_billAll_8 : DI cX4_billAll 8 (.getfield 61) 3 11 := ⟨by decide +kernel, rfl⟩
theorem dX4_billAll_11 : DI cX4_billAll 11 (.invokevirtual 105) 3 14 := ⟨by decide +kernel, rfl⟩
theorem dX4_billAll_14 : DI cX4_billAll 14 (.ireturn) 1 15 := ⟨by decide +kernel, rfl⟩
theorem dX4_state_0 : DI cX4_state 0 (.aload_n 0) 1 1 := ⟨by decide +kernel, rfl⟩
theorem dX4_state_1 : DI cX4_state 1 (.getfield 25) 3 4 := ⟨by decide +kernel, rfl⟩
theorem dX4_state_4 : DB cX4_state 4 (.ifCond .eq 5) (5) 3 7 9 := ⟨by decide +kernel, rfl, by decide⟩
theorem dX4_state_7 : DI cX4_state 7 (.iconst 3) 1 8 := ⟨by decide +kernel, rfl⟩
theorem dX4_state_8 : DI cX4_state 8 (.ireturn) 1 9 := ⟨by decide +kernel, rfl⟩
theorem dX4_state_9 : DI cX4_state 9 (.aload_n 0) 1 10 := ⟨by decide +kernel, rfl⟩
theorem dX4_state_10 : DI cX4_state 10 (.getfield 21) 3 13 := ⟨by decide +kernel, rfl⟩
theorem dX4_state_13 : DB cX4_state 13 (.ifCond .eq 7) (7) 3 16 20 := ⟨by decide +kernel, rfl, by decide⟩
theorem dX4_state_16 : DI cX4_state 16 (.iconst 2) 1 17 := ⟨by decide +kernel, rfl⟩
theorem dX4_state_17 : DB cX4_state 17 (.goto 4) (4) 3 20 21 := ⟨by decide +kernel, rfl, by decide⟩
theorem dX4_state_20 : DI cX4_state 20 (.iconst 1) 1 21 := ⟨by decide +kernel, rfl⟩
theorem dX4_state_21 : DI cX4_state 21 (.ireturn) 1 22 := ⟨by decide +kernel, rfl⟩
theorem dX5_init_0 : DI cX5_init 0 (.aload_n 0) 1 1 := ⟨by decide +kernel, rfl⟩
theorem dX5_init_1 : DI cX5_init 1 (.invokespecial 1) 3 4 := ⟨by decide +kernel, rfl⟩
theorem dX5_init_4 : DI cX5_init 4 (.aload_n 0) 1 5 := ⟨by decide +kernel, rfl⟩
theorem dX5_init_5 : DI cX5_init 5 (.iconst 0) 1 6 := ⟨by decide +kernel, rfl⟩
theorem dX5_init_6 : DI cX5_init 6 (.putfield 7) 3 9 := ⟨by decide +kernel, rfl⟩
theorem dX5_init_9 : DI cX5_init 9 (.aload_n 0) 1 10 := ⟨by decide +kernel, rfl⟩
theorem dX5_init_10 : DI cX5_init 10 (.iconst 1) 1 11 := ⟨by decide +kernel, rfl⟩
theorem dX5_init_11 : DI cX5_init 11 (.putfield 13) 3 14 := ⟨by decide +kernel, rfl⟩
theorem dX5_init_14 : DI cX5_init 14 (.aload_n 0) 1 15 := ⟨by decide +kernel, rfl⟩
theorem dX5_init_15 : DI cX5_init 15 (.iconst 0) 1 16 := ⟨by decide +kernel, rfl⟩
theorem dX5_init_16 : DI cX5_init 16 (.putfield 16) 3 19 := ⟨by decide +kernel, rfl⟩
theorem dX5_init_19 : DI cX5_init 19 (.aload_n 0) 1 20 := ⟨by decide +kernel, rfl⟩
theorem dX5_init_20 : DI cX5_init 20 (.aconst_null) 1 21 := ⟨by decide +kernel, rfl⟩
theorem dX5_init_21 : DI cX5_init 21 (.putfield 20) 3 24 := ⟨by decide +kernel, rfl⟩
theorem dX5_init_24 : DI cX5_init 24 (.aload_n 0) 1 25 := ⟨by decide +kernel, rfl⟩
theorem dX5_init_25 : DI cX5_init 25 (.new 24) 3 28 := ⟨by decide +kernel, rfl⟩
theorem dX5_init_28 : DI cX5_init 28 (.dup) 1 29 := ⟨by decide +kernel, rfl⟩
theorem dX5_init_29 : DI cX5_init 29 (.invokespecial 26) 3 32 := ⟨by decide +kernel, rfl⟩
theorem dX5_init_32 : DI cX5_init 32 (.putfield 27) 3 35 := ⟨by decide +kernel, rfl⟩
theorem dX5_init_35 : DI cX5_init 35 (.aload_n 0) 1 36 := ⟨by decide +kernel, rfl⟩
theorem dX5_init_36 : DI cX5_init 36 (.iload_n 1) 1 37 := ⟨by decide +kernel, rfl⟩
theorem dX5_init_37 : DI cX5_init 37 (.putfield 31) 3 40 := ⟨by decide +kernel, rfl⟩
theorem dX5_init_40 : DI cX5_init 40 (.aload_n 0) 1 41 := ⟨by decide +kernel, rfl⟩
theorem dX5_init_41 : DI cX5_init 41 (.aload_n 2) 1 42 := ⟨by decide +kernel, rfl⟩
theorem dX5_init_42 : DI cX5_init 42 (.putfield 34) 3 45 := ⟨by decide +kernel, rfl⟩
theorem dX5_init_45 : DI cX5_init 45 (.aload_n 0) 1 46 := ⟨by decide +kernel, rfl⟩
theorem dX5_init_46 : DI cX5_init 46 (.iload_n 3) 1 47 := ⟨by decide +kernel, rfl⟩
theorem dX5_init_47 : DI cX5_init 47 (.putfield 38) 3 50 := ⟨by decide +kernel, rfl⟩
theorem dX5_init_50 : DI cX5_init 50 (.return_) 1 51 := ⟨by decide +kernel, rfl⟩
theorem dX6_init_0 : DI cX6_init 0 (.aload_n 0) 1 1 := ⟨by decide +kernel, rfl⟩
theorem dX6_init_1 : DI cX6_init 1 (.invokespecial 3) 3 4 := ⟨by decide +kernel, rfl⟩
theorem dX6_init_4 : DI cX6_init 4 (.aload_n 0) 1 5 := ⟨by decide +kernel, rfl⟩
theorem dX6_init_5 : DI cX6_init 5 (.iconst 0) 1 6 := ⟨by decide +kernel, rfl⟩
theorem dX6_init_6 : DI cX6_init 6 (.putfield 9) 3 9 := ⟨by decide +kernel, rfl⟩
theorem dX6_init_9 : DI cX6_init 9 (.aload_n 0) 1 10 := ⟨by decide +kernel, rfl⟩
theorem dX6_init_10 : DI cX6_init 10 (.iconst 0) 1 11 := ⟨by decide +kernel, rfl⟩
theorem dX6_init_11 : DI cX6_init 11 (.putfield 15) 3 14 := ⟨by decide +kernel, rfl⟩
theorem dX6_init_14 : DI cX6_init 14 (.aload_n 0) 1 15 := ⟨by decide +kernel, rfl⟩
theorem dX6_init_15 : DI cX6_init 15 (.iconst 0) 1 16 := ⟨by decide +kernel, rfl⟩
theorem dX6_init_16 : DI cX6_init 16 (.putfield 18) 3 19 := ⟨by decide +kernel, rfl⟩
theorem dX6_init_19 : DI cX6_init 19 (.aload_n 0) 1 20 := ⟨by decide +kernel, rfl⟩
theorem dX6_init_20 : DI cX6_init 20 (.iconst 0) 1 21 := ⟨by decide +kernel, rfl⟩
theorem dX6_init_21 : DI cX6_init 21 (.putfield 21) 3 24 := ⟨by decide +kernel, rfl⟩
theorem dX6_init_24 : DI cX6_init 24 (.return_) 1 25 := ⟨by decide +kernel, rfl⟩
theorem dX6_take_0 : DI cX6_take 0 (.iload_n 2) 1 1 := ⟨by decide +kernel, rfl⟩
theorem dX6_take_1 : DI cX6_take 1 (.aload_n 0) 1 2 := ⟨by decide +kernel, rfl⟩
theorem dX6_take_2 : DI cX6_take 2 (.getfield 9) 3 5 := ⟨by decide +kernel, rfl⟩
theorem dX6_take_5 : DI cX6_take 5 (.isub) 1 6 := ⟨by decide +kernel, rfl⟩
theorem dX6_take_6 : DI cX6_take 6 (.istore 4) 2 8 := ⟨by decide +kernel, rfl⟩
theorem dX6_take_8 : DI cX6_take 8 (.iload_n 1) 1 9 := ⟨by decide +kernel, rfl⟩
theorem dX6_take_9 : DI cX6_take 9 (.sipush 1440) 3 12 := ⟨by decide +kernel, rfl⟩
theorem dX6_take_12 : DI cX6_take 12 (.irem) 1 13 := ⟨by decide +kernel, rfl⟩
theorem dX6_take_13 : DI cX6_take 13 (.istore 5) 2 15 := ⟨by decide +kernel, rfl⟩
theorem dX6_take_15 : DI cX6_take 15 (.iload 5) 2 17 := ⟨by decide +kernel, rfl⟩
theorem dX6_take_17 : DI cX6_take 17 (.sipush 360) 3 20 := ⟨by decide +kernel, rfl⟩
theorem dX6_take_20 : DB cX6_take 20 (.if_icmp .lt 25) (25) 3 23 45 := ⟨by decide +kernel, rfl, by decide⟩
theorem dX6_take_23 : DI cX6_take 23 (.iload 5) 2 25 := ⟨by decide +kernel, rfl⟩
theorem dX6_take_25 : DI cX6_take 25 (.sipush 1320) 3 28 := ⟨by decide +kernel, rfl⟩
theorem dX6_take_28 : DB cX6_take 28 (.if_icmp .ge 17) (17) 3 31 45 := ⟨by decide +kernel, rfl, by decide⟩
theorem dX6_take_31 : DI cX6_take 31 (.aload_n 0) 1 32 := ⟨by decide +kernel, rfl⟩
theorem dX6_take_32 : DI cX6_take 32 (.dup) 1 33 := ⟨by decide +kernel, rfl⟩
theorem dX6_take_33 : DI cX6_take 33 (.getfield 15) 3 36 := ⟨by decide +kernel, rfl⟩
theorem dX6_take_36 : DI cX6_take 36 (.iload 4) 2 38 := ⟨by decide +kernel, rfl⟩
theorem dX6_take_38 : DI cX6_take 38 (.iadd) 1 39 := ⟨by decide +kernel, rfl⟩
theorem dX6_take_39 : DI cX6_take 39 (.putfield 15) 3 42 := ⟨by decide +kernel, rfl⟩
theorem dX6_take_42 : DB cX6_take 42 (.goto 14) (14) 3 45 56 := ⟨by decide +kernel, rfl, by decide⟩
theorem dX6_take_45 : DI cX6_take 45 (.aload_n 0) 1 46 := ⟨by decide +kernel, rfl⟩
theorem dX6_take_46 : DI cX6_take 46 (.dup) 1 47 := ⟨by decide +kernel, rfl⟩
theorem dX6_take_47 : DI cX6_take 47 (.getfield 18) 3 50 := ⟨by decide +kernel, rfl⟩
theorem dX6_take_50 : DI cX6_take 50 (.iload 4) 2 52 := ⟨by decide +kernel, rfl⟩
theorem dX6_take_52 : DI cX6_take 52 (.iadd) 1 53 := ⟨by decide +kernel, rfl⟩
theorem dX6_take_53 : DI cX6_take 53 (.putfield 18) 3 56 := ⟨by decide +kernel, rfl⟩
theorem dX6_take_56 : DI cX6_take 56 (.iload 4) 2 58 := ⟨by decide +kernel, rfl⟩
theorem dX6_take_58 : DB cX6_take 58 (.ifCond .gt 17) (17) 3 61 75 := ⟨by decide +kernel, rfl, by decide⟩
theorem dX6_take_61 : DI cX6_take 61 (.iload_n 3) 1 62 := ⟨by decide +kernel, rfl⟩
theorem dX6_take_62 : DB cX6_take 62 (.ifCond .eq 13) (13) 3 65 75 := ⟨by decide +kernel, rfl, by decide⟩
theorem dX6_take_65 : DI cX6_take 65 (.aload_n 0) 1 66 := ⟨by decide +kernel, rfl⟩
theorem dX6_take_66 : DI cX6_take 66 (.dup) 1 67 := ⟨by decide +kernel, rfl⟩
theorem dX6_take_67 : DI cX6_take 67 (.getfield 21) 3 70 := ⟨by decide +kernel, rfl⟩
theorem dX6_take_70 : DI cX6_take 70 (.iconst 1) 1 71 := ⟨by decide +kernel, rfl⟩
theorem dX6_take_71 : DI cX6_take 71 (.iadd) 1 72 := ⟨by decide +kernel, rfl⟩
theorem dX6_take_72 : DI cX6_take 72 (.putfield 21) 3 75 := ⟨by decide +kernel, rfl⟩
theorem dX6_take_75 : DI cX6_take 75 (.aload_n 0) 1 76 := ⟨by decide +kernel, rfl⟩
theorem dX6_take_76 : DI cX6_take 76 (.iload_n 2) 1 77 := ⟨by decide +kernel, rfl⟩
theorem dX6_take_77 : DI cX6_take 77 (.putfield 9) 3 80 := ⟨by decide +kernel, rfl⟩
theorem dX6_take_80 : DI cX6_take 80 (.return_) 1 81 := ⟨by decide +kernel, rfl⟩
theorem dX6_cents_0 : DI cX6_cents 0 (.aload_n 0) 1 1 := ⟨by decide +kernel, rfl⟩
theorem dX6_cents_1 : DI cX6_cents 1 (.getfield 15) 3 4 := ⟨by decide +kernel, rfl⟩
theorem dX6_cents_4 : DI cX6_cents 4 (.i2l) 1 5 := ⟨by decide +kernel, rfl⟩
theorem dX6_cents_5 : DI cX6_cents 5 (.aload_n 1) 1 6 := ⟨by decide +kernel, rfl⟩
theorem dX6_cents_6 : DI cX6_cents 6 (.getfield 24) 3 9 := ⟨by decide +kernel, rfl⟩
theorem dX6_cents_9 : DI cX6_cents 9 (.i2l) 1 10 := ⟨by decide +kernel, rfl⟩
theorem dX6_cents_10 : DI cX6_cents 10 (.lmul) 1 11 := ⟨by decide +kernel, rfl⟩
theorem dX6_cents_11 : DI cX6_cents 11 (.ldc2_w 29) 3 14 := ⟨by decide +kernel, rfl⟩
theorem dX6_cents_14 : DI cX6_cents 14 (.ldiv) 1 15 := ⟨by decide +kernel, rfl⟩
theorem dX6_cents_15 : DI cX6_cents 15 (.lstore_n 2) 1 16 := ⟨by decide +kernel, rfl⟩
theorem dX6_cents_16 : DI cX6_cents 16 (.aload_n 0) 1 17 := ⟨by decide +kernel, rfl⟩
theorem dX6_cents_17 : DI cX6_cents 17 (.getfield 18) 3 20 := ⟨by decide +kernel, rfl⟩
theorem dX6_cents_20 : DI cX6_cents 20 (.i2l) 1 21 := ⟨by decide +kernel, rfl⟩
theorem dX6_cents_21 : DI cX6_cents 21 (.aload_n 1) 1 22 := ⟨by decide +kernel, rfl⟩
theorem dX6_cents_22 : DI cX6_cents 22 (.getfield 31) 3 25 := ⟨by decide +kernel, rfl⟩
theorem dX6_cents_25 : DI cX6_cents 25 (.i2l) 1 26 := ⟨by decide +kernel, rfl⟩
theorem dX6_cents_26 : DI cX6_cents 26 (.lmul) 1 27 := ⟨by decide +kernel, rfl⟩
theorem dX6_cents_27 : DI cX6_cents 27 (.ldc2_w 29) 3 30 := ⟨by decide +kernel, rfl⟩
theorem dX6_cents_30 : DI cX6_cents 30 (.ldiv) 1 31 := ⟨by decide +kernel, rfl⟩
theorem dX6_cents_31 : DI cX6_cents 31 (.lstore 4) 2 33 := ⟨by decide +kernel, rfl⟩
theorem dX6_cents_33 : DI cX6_cents 33 (.iconst 0) 1 34 := ⟨by decide +kernel, rfl⟩
theorem dX6_cents_34 : DI cX6_cents 34 (.aload_n 0) 1 35 := ⟨by decide +kernel, rfl⟩
theorem dX6_cents_35 : DI cX6_cents 35 (.getfield 21) 3 38 := ⟨by decide +kernel, rfl⟩
theorem dX6_cents_38 : DI cX6_cents 38 (.bipush 10) 2 40 := ⟨by decide +kernel, rfl⟩
theorem dX6_cents_40 : DI cX6_cents 40 (.isub) 1 41 := ⟨by decide +kernel, rfl⟩
theorem dX6_cents_41 : DI cX6_cents 41 (.invokestatic 34) 3 44 := ⟨by decide +kernel, rfl⟩
theorem dX6_cents_44 : DI cX6_cents 44 (.i2l) 1 45 := ⟨by decide +kernel, rfl⟩
theorem dX6_cents_45 : DI cX6_cents 45 (.aload_n 1) 1 46 := ⟨by decide +kernel, rfl⟩
theorem dX6_cents_46 : DI cX6_cents 46 (.getfield 40) 3 49 := ⟨by decide +kernel, rfl⟩
theorem dX6_cents_49 : DI cX6_cents 49 (.i2l) 1 50 := ⟨by decide +kernel, rfl⟩
theorem dX6_cents_50 : DI cX6_cents 50 (.lmul) 1 51 := ⟨by decide +kernel, rfl⟩
theorem dX6_cents_51 : DI cX6_cents 51 (.lstore 6) 2 53 := ⟨by decide +kernel, rfl⟩
theorem dX6_cents_53 : DI cX6_cents 53 (.aload_n 1) 1 54 := ⟨by decide +kernel, rfl⟩
theorem dX6_cents_54 : DI cX6_cents 54 (.getfield 43) 3 57 := ⟨by decide +kernel, rfl⟩
theorem dX6_cents_57 : DI cX6_cents 57 (.i2l) 1 58 := ⟨by decide +kernel, rfl⟩
theorem dX6_cents_58 : DI cX6_cents 58 (.lload_n 2) 1 59 := ⟨by decide +kernel, rfl⟩
theorem dX6_cents_59 : DI cX6_cents 59 (.ladd) 1 60 := ⟨by decide +kernel, rfl⟩
theorem dX6_cents_60 : DI cX6_cents 60 (.lload 4) 2 62 := ⟨by decide +kernel, rfl⟩
theorem dX6_cents_62 : DI cX6_cents 62 (.ladd) 1 63 := ⟨by decide +kernel, rfl⟩
theorem dX6_cents_63 : DI cX6_cents 63 (.lload 6) 2 65 := ⟨by decide +kernel, rfl⟩
theorem dX6_cents_65 : DI cX6_cents 65 (.ladd) 1 66 := ⟨by decide +kernel, rfl⟩
theorem dX6_cents_66 : DI cX6_cents 66 (.l2i) 1 67 := ⟨by decide +kernel, rfl⟩
theorem dX6_cents_67 : DI cX6_cents 67 (.ireturn) 1 68 := ⟨by decide +kernel, rfl⟩
theorem dX7_init_0 : DI cX7_init 0 (.aload_n 0) 1 1 := ⟨by decide +kernel, rfl⟩
theorem dX7_init_1 : DI cX7_init 1 (.invokespecial 1) 3 4 := ⟨by decide +kernel, rfl⟩
theorem dX7_init_4 : DI cX7_init 4 (.aload_n 0) 1 5 := ⟨by decide +kernel, rfl⟩
theorem dX7_init_5 : DI cX7_init 5 (.iload_n 1) 1 6 := ⟨by decide +kernel, rfl⟩
theorem dX7_init_6 : DI cX7_init 6 (.putfield 7) 3 9 := ⟨by decide +kernel, rfl⟩
theorem dX7_init_9 : DI cX7_init 9 (.aload_n 0) 1 10 := ⟨by decide +kernel, rfl⟩
theorem dX7_init_10 : DI cX7_init 10 (.iload_n 2) 1 11 := ⟨by decide +kernel, rfl⟩
theorem dX7_init_11 : DI cX7_init 11 (.putfield 13) 3 14 := ⟨by decide +kernel, rfl⟩
theorem dX7_init_14 : DI cX7_init 14 (.aload_n 0) 1 15 := ⟨by decide +kernel, rfl⟩
theorem dX7_init_15 : DI cX7_init 15 (.iload_n 3) 1 16 := ⟨by decide +kernel, rfl⟩
theorem dX7_init_16 : DI cX7_init 16 (.putfield 16) 3 19 := ⟨by decide +kernel, rfl⟩
theorem dX7_init_19 : DI cX7_init 19 (.aload_n 0) 1 20 := ⟨by decide +kernel, rfl⟩
theorem dX7_init_20 : DI cX7_init 20 (.iload 4) 2 22 := ⟨by decide +kernel, rfl⟩
theorem dX7_init_22 : DI cX7_init 22 (.putfield 19) 3 25 := ⟨by decide +kernel, rfl⟩
theorem dX7_init_25 : DI cX7_init 25 (.return_) 1 26 := ⟨by decide +kernel, rfl⟩
theorem dX8_init_0 : DI cX8_init 0 (.aload_n 0) 1 1 := ⟨by decide +kernel, rfl⟩
theorem dX8_init_1 : DI cX8_init 1 (.invokespecial 3) 3 4 := ⟨by decide +kernel, rfl⟩
theorem dX8_init_4 : DI cX8_init 4 (.aload_n 0) 1 5 := ⟨by decide +kernel, rfl⟩
theorem dX8_init_5 : DI cX8_init 5 (.sipush 128) 3 8 := ⟨by decide +kernel, rfl⟩
theorem dX8_init_8 : DI cX8_init 8 (.newarray .int) 2 10 := ⟨by decide +kernel, rfl⟩
theorem dX8_init_10 : DI cX8_init 10 (.putfield 9) 3 13 := ⟨by decide +kernel, rfl⟩
theorem dX8_init_13 : DI cX8_init 13 (.aload_n 0) 1 14 := ⟨by decide +kernel, rfl⟩
theorem dX8_init_14 : DI cX8_init 14 (.iconst 0) 1 15 := ⟨by decide +kernel, rfl⟩
theorem dX8_init_15 : DI cX8_init 15 (.putfield 15) 3 18 := ⟨by decide +kernel, rfl⟩
theorem dX8_init_18 : DI cX8_init 18 (.aload_n 0) 1 19 := ⟨by decide +kernel, rfl⟩
theorem dX8_init_19 : DI cX8_init 19 (.iconst 0) 1 20 := ⟨by decide +kernel, rfl⟩
theorem dX8_init_20 : DI cX8_init 20 (.putfield 19) 3 23 := ⟨by decide +kernel, rfl⟩
theorem dX8_init_23 : DI cX8_init 23 (.aload_n 0) 1 24 := ⟨by decide +kernel, rfl⟩
theorem dX8_init_24 : DI cX8_init 24 (.new 22) 3 27 := ⟨by decide +kernel, rfl⟩
theorem dX8_init_27 : DI cX8_init 27 (.dup) 1 28 := ⟨by decide +kernel, rfl⟩
theorem dX8_init_28 : DI cX8_init 28 (.invokespecial 24) 3 31 := ⟨by decide +kernel, rfl⟩
theorem dX8_init_31 : DI cX8_init 31 (.putfield 25) 3 34 := ⟨by decide +kernel, rfl⟩
theorem dX8_init_34 : DI cX8_init 34 (.aload_n 0) 1 35 := ⟨by decide +kernel, rfl⟩
theorem dX8_init_35 : DI cX8_init 35 (.iload_n 1) 1 36 := ⟨by decide +kernel, rfl⟩
theorem dX8_init_36 : DI cX8_init 36 (.putfield 29) 3 39 := ⟨by decide +kernel, rfl⟩
theorem dX8_init_39 : DI cX8_init 39 (.return_) 1 40 := ⟨by decide +kernel, rfl⟩
theorem dX8_make_0 : DI cX8_make 0 (.aload_n 0) 1 1 := ⟨by decide +kernel, rfl⟩
theorem dX8_make_1 : DI cX8_make 1 (.getfield 15) 3 4 := ⟨by decide +kernel, rfl⟩
theorem dX8_make_4 : DI cX8_make 4 (.aload_n 0) 1 5 := ⟨by decide +kernel, rfl⟩
theorem dX8_make_5 : DI cX8_make 5 (.getfield 9) 3 8 := ⟨by decide +kernel, rfl⟩
theorem dX8_make_8 : DI cX8_make 8 (.arraylength) 1 9 := ⟨by decide +kernel, rfl⟩
theorem dX8_make_9 : DB cX8_make 9 (.if_icmp .lt 27) (27) 3 12 36 := ⟨by decide +kernel, rfl, by decide⟩
theorem dX8_make_12 : DI cX8_make 12 (.aload_n 0) 1 13 := ⟨by decide +kernel, rfl⟩
theorem dX8_make_13 : DI cX8_make 13 (.aload_n 0) 1 14 := ⟨by decide +kernel, rfl⟩
theorem dX8_make_14 : DI cX8_make 14 (.getfield 9) 3 17 := ⟨by decide +kernel, rfl⟩
theorem dX8_make_17 : DI cX8_make 17 (.sipush 20000) 3 20 := ⟨by decide +kernel, rfl⟩
theorem dX8_make_20 : DI cX8_make 20 (.iconst 2) 1 21 := ⟨by decide +kernel, rfl⟩
theorem dX8_make_21 : DI cX8_make 21 (.aload_n 0) 1 22 := ⟨by decide +kernel, rfl⟩
theorem dX8_make_22 : DI cX8_make 22 (.getfield 9) 3 25 := ⟨by decide +kernel, rfl⟩
theorem dX8_make_25 : DI cX8_make 25 (.arraylength) 1 26 := ⟨by decide +kernel, rfl⟩
theorem dX8_make_26 : DI cX8_make 26 (.imul) 1 27 := ⟨by decide +kernel, rfl⟩
theorem dX8_make_27 : DI cX8_make 27 (.invokestatic 32) 3 30 := ⟨by decide +kernel, rfl⟩
theorem dX8_make_30 : DI cX8_make 30 (.invokestatic 38) 3 33 := ⟨by decide +kernel, rfl⟩
theorem dX8_make_33 : DI cX8_make 33 (.putfield 9) 3 36 := ⟨by decide +kernel, rfl⟩
theorem dX8_make_36 : DI cX8_make 36 (.aload_n 0) 1 37 := ⟨by decide +kernel, rfl⟩
theorem dX8_make_37 : DI cX8_make 37 (.getfield 15) 3 40 := ⟨by decide +kernel, rfl⟩
theorem dX8_make_40 : DI cX8_make 40 (.aload_n 0) 1 41 := ⟨by decide +kernel, rfl⟩
theorem dX8_make_41 : DI cX8_make 41 (.getfield 9) 3 44 := ⟨by decide +kernel, rfl⟩
theorem dX8_make_44 : DI cX8_make 44 (.arraylength) 1 45 := ⟨by decide +kernel, rfl⟩
theorem dX8_make_45 : DB cX8_make 45 (.if_icmp .ge 35) (35) 3 48 80 := ⟨by decide +kernel, rfl, by decide⟩
theorem dX8_make_48 : DI cX8_make 48 (.aload_n 0) 1 49 := ⟨by decide +kernel, rfl⟩
theorem dX8_make_49 : DI cX8_make 49 (.getfield 9) 3 52 := ⟨by decide +kernel, rfl⟩
theorem dX8_make_52 : DI cX8_make 52 (.aload_n 0) 1 53 := ⟨by decide +kernel, rfl⟩
theorem dX8_make_53 : DI cX8_make 53 (.getfield 15) 3 56 := ⟨by decide +kernel, rfl⟩
theorem dX8_make_56 : DI cX8_make 56 (.iconst 2) 1 57 := ⟨by decide +kernel, rfl⟩
theorem dX8_make_57 : DI cX8_make 57 (.iload_n 1) 1 58 := ⟨by decide +kernel, rfl⟩
theorem dX8_make_58 : DI cX8_make 58 (.imul) 1 59 := ⟨by decide +kernel, rfl⟩
theorem dX8_make_59 : DI cX8_make 59 (.iload_n 2) 1 60 := ⟨by decide +kernel, rfl⟩
theorem dX8_make_60 : DB cX8_make 60 (.ifCond .eq 7) (7) 3 63 67 := ⟨by decide +kernel, rfl, by decide⟩
theorem dX8_make_63 : DI cX8_make 63 (.iconst 1) 1 64 := ⟨by decide +kernel, rfl⟩
theorem dX8_make_64 : DB cX8_make 64 (.goto 4) (4) 3 67 68 := ⟨by decide +kernel, rfl, by decide⟩
theorem dX8_make_67 : DI cX8_make 67 (.iconst 0) 1 68 := ⟨by decide +kernel, rfl⟩
theorem dX8_make_68 : DI cX8_make 68 (.iadd) 1 69 := ⟨by decide +kernel, rfl⟩
theorem dX8_make_69 : DI cX8_make 69 (.iastore) 1 70 := ⟨by decide +kernel, rfl⟩
theorem dX8_make_70 : DI cX8_make 70 (.aload_n 0) 1 71 := ⟨by decide +kernel, rfl⟩
theorem dX8_make_71 : DI cX8_make 71 (.dup) 1 72 := ⟨by decide +kernel, rfl⟩
theorem dX8_make_72 : DI cX8_make 72 (.getfield 15) 3 75 := ⟨by decide +kernel, rfl⟩
theorem dX8_make_75 : DI cX8_make 75 (.iconst 1) 1 76 := ⟨by decide +kernel, rfl⟩
theorem dX8_make_76 : DI cX8_make 76 (.iadd) 1 77 := ⟨by decide +kernel, rfl⟩
theorem dX8_make_77 : DI cX8_make 77 (.putfield 15) 3 80 := ⟨by decide +kernel, rfl⟩
theorem dX8_make_80 : DI cX8_make 80 (.return_) 1 81 := ⟨by decide +kernel, rfl⟩
theorem dX8_hearAll_0 : DI cX8_hearAll 0 (.aload_n 0) 1 1 := ⟨by decide +kernel, rfl⟩
theorem dX8_hearAll_1 : DI cX8_hearAll 1 (.getfield 15) 3 4 := ⟨by decide +kernel, rfl⟩
theorem dX8_hearAll_4 : DI cX8_hearAll 4 (.aload_n 0) 1 5 := ⟨by decide +kernel, rfl⟩
theorem dX8_hearAll_5 : DI cX8_hearAll 5 (.getfield 19) 3 8 := ⟨by decide +kernel, rfl⟩
theorem dX8_hearAll_8 : DI cX8_hearAll 8 (.isub) 1 9 := ⟨by decide +kernel, rfl⟩
theorem dX8_hearAll_9 : DI cX8_hearAll 9 (.istore_n 1) 1 10 := ⟨by decide +kernel, rfl⟩
theorem dX8_hearAll_10 : DI cX8_hearAll 10 (.aload_n 0) 1 11 := ⟨by decide +kernel, rfl⟩
theorem dX8_hearAll_11 : DI cX8_hearAll 11 (.aload_n 0) 1 12 := ⟨by decide +kernel, rfl⟩
theorem dX8_hearAll_12 : DI cX8_hearAll 12 (.getfield 25) 3 15 := ⟨by decide +kernel, rfl⟩
theorem dX8_hearAll_15 : DI cX8_hearAll 15 (.aload_n 0) 1 16 := ⟨by decide +kernel, rfl⟩
theorem dX8_hearAll_16 : DI cX8_hearAll 16 (.getfield 19) 3 19 := ⟨by decide +kernel, rfl⟩
theorem dX8_hearAll_19 : DI cX8_hearAll 19 (.invokevirtual 44) 3 22 := ⟨by decide +kernel, rfl⟩
theorem dX8_hearAll_22 : DI cX8_hearAll 22 (.aload_n 0) 1 23 := ⟨by decide +kernel, rfl⟩
theorem dX8_hearAll_23 : DI cX8_hearAll 23 (.aload_n 0) 1 24 := ⟨by decide +kernel, rfl⟩
theorem dX8_hearAll_24 : DI cX8_hearAll 24 (.getfield 15) 3 27 := ⟨by decide +kernel, rfl⟩
theorem dX8_hearAll_27 : DI cX8_hearAll 27 (.putfield 19) 3 30 := ⟨by decide +kernel, rfl⟩
theorem dX8_hearAll_30 : DI cX8_hearAll 30 (.iload_n 1) 1 31 := ⟨by decide +kernel, rfl⟩
theorem dX8_hearAll_31 : DI cX8_hearAll 31 (.ireturn) 1 32 := ⟨by decide +kernel, rfl⟩
theorem dX8_ofAll_0 : DI cX8_ofAll 0 (.new 22) 3 3 := ⟨by decide +kernel, rfl⟩
theorem dX8_ofAll_3 : DI cX8_ofAll 3 (.dup) 1 4 := ⟨by decide +kernel, rfl⟩
theorem dX8_ofAll_4 : DI cX8_ofAll 4 (.invokespecial 24) 3 7 := ⟨by decide +kernel, rfl⟩
theorem dX8_ofAll_7 : DI cX8_ofAll 7 (.astore_n 1) 1 8 := ⟨by decide +kernel, rfl⟩
theorem dX8_ofAll_8 : DI cX8_ofAll 8 (.aload_n 0) 1 9 := ⟨by decide +kernel, rfl⟩
theorem dX8_ofAll_9 : DI cX8_ofAll 9 (.aload_n 1) 1 10 := ⟨by decide +kernel, rfl⟩
theorem dX8_ofAll_10 : DI cX8_ofAll 10 (.iconst 0) 1 11 := ⟨by decide +kernel, rfl⟩
theorem dX8_ofAll_11 : DI cX8_ofAll 11 (.invokevirtual 44) 3 14 := ⟨by decide +kernel, rfl⟩
theorem dX8_ofAll_14 : DI cX8_ofAll 14 (.aload_n 1) 1 15 := ⟨by decide +kernel, rfl⟩
theorem dX8_ofAll_15 : DI cX8_ofAll 15 (.areturn) 1 16 := ⟨by decide +kernel, rfl⟩
theorem dX8_takeInto_0 : DI cX8_takeInto 0 (.iconst 0) 1 1 := ⟨by decide +kernel, rfl⟩
theorem dX8_takeInto_1 : DI cX8_takeInto 1 (.iload_n 2) 1 2 := ⟨by decide +kernel, rfl⟩
theorem dX8_takeInto_2 : DI cX8_takeInto 2 (.invokestatic 48) 3 5 := ⟨by decide +kernel, rfl⟩
theorem dX8_takeInto_5 : DI cX8_takeInto 5 (.istore_n 3) 1 6 := ⟨by decide +kernel, rfl⟩
theorem dX8_takeInto_6 : DI cX8_takeInto 6 (.iload_n 3) 1 7 := ⟨by decide +kernel, rfl⟩
theorem dX8_takeInto_7 : DI cX8_takeInto 7 (.aload_n 0) 1 8 := ⟨by decide +kernel, rfl⟩
theorem dX8_takeInto_8 : DI cX8_takeInto 8 (.getfield 15) 3 11 := ⟨by decide +kernel, rfl⟩
theorem dX8_takeInto_11 : DB cX8_takeInto 11 (.if_icmp .ge 53) (53) 3 14 64 := ⟨by decide +kernel, rfl, by decide⟩
theorem dX8_takeInto_14 : DI cX8_takeInto 14 (.iload_n 3) 1 15 := ⟨by decide +kernel, rfl⟩
theorem dX8_takeInto_15 : DI cX8_takeInto 15 (.aload_n 0) 1 16 := ⟨by decide +kernel, rfl⟩
theorem dX8_takeInto_16 : DI cX8_takeInto 16 (.getfield 9) 3 19 := ⟨by decide +kernel, rfl⟩
theorem dX8_takeInto_19 : DI cX8_takeInto 19 (.arraylength) 1 20 := ⟨by decide +kernel, rfl⟩
theorem dX8_takeInto_20 : DB cX8_takeInto 20 (.if_icmp .ge 44) (44) 3 23 64 := ⟨by decide +kernel, rfl, by decide⟩
theorem dX8_takeInto_23 : DI cX8_takeInto 23 (.aload_n 1) 1 24 := ⟨by decide +kernel, rfl⟩
theorem dX8_takeInto_24 : DI cX8_takeInto 24 (.aload_n 0) 1 25 := ⟨by decide +kernel, rfl⟩
theorem dX8_takeInto_25 : DI cX8_takeInto 25 (.getfield 29) 3 28 := ⟨by decide +kernel, rfl⟩
theorem dX8_takeInto_28 : DI cX8_takeInto 28 (.iload_n 3) 1 29 := ⟨by decide +kernel, rfl⟩
theorem dX8_takeInto_29 : DI cX8_takeInto 29 (.iadd) 1 30 := ⟨by decide +kernel, rfl⟩
theorem dX8_takeInto_30 : DI cX8_takeInto 30 (.aload_n 0) 1 31 := ⟨by decide +kernel, rfl⟩
theorem dX8_takeInto_31 : DI cX8_takeInto 31 (.getfield 9) 3 34 := ⟨by decide +kernel, rfl⟩
theorem dX8_takeInto_34 : DI cX8_takeInto 34 (.iload_n 3) 1 35 := ⟨by decide +kernel, rfl⟩
theorem dX8_takeInto_35 : DI cX8_takeInto 35 (.iaload) 1 36 := ⟨by decide +kernel, rfl⟩
theorem dX8_takeInto_36 : DI cX8_takeInto 36 (.iconst 2) 1 37 := ⟨by decide +kernel, rfl⟩
theorem dX8_takeInto_37 : DI cX8_takeInto 37 (.idiv) 1 38 := ⟨by decide +kernel, rfl⟩
theorem dX8_takeInto_38 : DI cX8_takeInto 38 (.aload_n 0) 1 39 := ⟨by decide +kernel, rfl⟩
theorem dX8_takeInto_39 : DI cX8_takeInto 39 (.getfield 9) 3 42 := ⟨by decide +kernel, rfl⟩
theorem dX8_takeInto_42 : DI cX8_takeInto 42 (.iload_n 3) 1 43 := ⟨by decide +kernel, rfl⟩
theorem dX8_takeInto_43 : DI cX8_takeInto 43 (.iaload) 1 44 := ⟨by decide +kernel, rfl⟩
theorem dX8_takeInto_44 : DI cX8_takeInto 44 (.iconst 2) 1 45 := ⟨by decide +kernel, rfl⟩
theorem dX8_takeInto_45 : DI cX8_takeInto 45 (.irem) 1 46 := ⟨by decide +kernel, rfl⟩
theorem dX8_takeInto_46 : DI cX8_takeInto 46 (.iconst 1) 1 47 := ⟨by decide +kernel, rfl⟩
theorem dX8_takeInto_47 : DB cX8_takeInto 47 (.if_icmp .ne 7) (7) 3 50 54 := ⟨by decide +kernel, rfl, by decide⟩
theorem dX8_takeInto_50 : DI cX8_takeInto 50 (.iconst 1) 1 51 := ⟨by decide +kernel, rfl⟩
theorem dX8_takeInto_51 : DB cX8_takeInto 51 (.goto 4) (4) 3 54 55 := ⟨by decide +kernel, rfl, by decide⟩
theorem dX8_takeInto_54 : DI cX8_takeInto 54 (.iconst 0) 1 55 := ⟨by decide +kernel, rfl⟩
theorem dX8_takeInto_55 : DI cX8_takeInto 55 (.invokevirtual 51) 3 58 := ⟨by decide +kernel, rfl⟩
theorem dX8_takeInto_58 : DI cX8_takeInto 58 (.iinc 3 1) 3 61 := ⟨by decide +kernel, rfl⟩
theorem dX8_takeInto_61 : DB cX8_takeInto 61 (.goto (-55)) (-55) 3 64 6 := ⟨by decide +kernel, rfl, by decide⟩
theorem dX8_takeInto_64 : DI cX8_takeInto 64 (.return_) 1 65 := ⟨by decide +kernel, rfl⟩
theorem dX9_init_0 : DI cX9_init 0 (.aload_n 0) 1 1 := ⟨by decide +kernel, rfl⟩
theorem dX9_init_1 : DI cX9_init 1 (.invokespecial 1) 3 4 := ⟨by decide +kernel, rfl⟩
theorem dX9_init_4 : DI cX9_init 4 (.aload_n 0) 1 5 := ⟨by decide +kernel, rfl⟩
theorem dX9_init_5 : DI cX9_init 5 (.new 7) 3 8 := ⟨by decide +kernel, rfl⟩
theorem dX9_init_8 : DI cX9_init 8 (.dup) 1 9 := ⟨by decide +kernel, rfl⟩
theorem dX9_init_9 : DI cX9_init 9 (.invokespecial 9) 3 12 := ⟨by decide +kernel, rfl⟩
theorem dX9_init_12 : DI cX9_init 12 (.putfield 10) 3 15 := ⟨by decide +kernel, rfl⟩
theorem dX9_init_15 : DI cX9_init 15 (.aload_n 0) 1 16 := ⟨by decide +kernel, rfl⟩
theorem dX9_init_16 : DI cX9_init 16 (.new 7) 3 19 := ⟨by decide +kernel, rfl⟩
theorem dX9_init_19 : DI cX9_init 19 (.dup) 1 20 := ⟨by decide +kernel, rfl⟩
theorem dX9_init_20 : DI cX9_init 20 (.invokespecial 9) 3 23 := ⟨by decide +kernel, rfl⟩
theorem dX9_init_23 : DI cX9_init 23 (.putfield 16) 3 26 := ⟨by decide +kernel, rfl⟩
theorem dX9_init_26 : DI cX9_init 26 (.aload_n 0) 1 27 := ⟨by decide +kernel, rfl⟩
theorem dX9_init_27 : DI cX9_init 27 (.new 7) 3 30 := ⟨by decide +kernel, rfl⟩
theorem dX9_init_30 : DI cX9_init 30 (.dup) 1 31 := ⟨by decide +kernel, rfl⟩
theorem dX9_init_31 : DI cX9_init 31 (.invokespecial 9) 3 34 := ⟨by decide +kernel, rfl⟩
theorem dX9_init_34 : DI cX9_init 34 (.putfield 19) 3 37 := ⟨by decide +kernel, rfl⟩
theorem dX9_init_37 : DI cX9_init 37 (.aload_n 0) 1 38 := ⟨by decide +kernel, rfl⟩
theorem dX9_init_38 : DI cX9_init 38 (.new 7) 3 41 := ⟨by decide +kernel, rfl⟩
theorem dX9_init_41 : DI cX9_init 41 (.dup) 1 42 := ⟨by decide +kernel, rfl⟩
theorem dX9_init_42 : DI cX9_init 42 (.invokespecial 9) 3 45 := ⟨by decide +kernel, rfl⟩
theorem dX9_init_45 : DI cX9_init 45 (.putfield 22) 3 48 := ⟨by decide +kernel, rfl⟩
theorem dX9_init_48 : DI cX9_init 48 (.aload_n 0) 1 49 := ⟨by decide +kernel, rfl⟩
theorem dX9_init_49 : DI cX9_init 49 (.new 7) 3 52 := ⟨by decide +kernel, rfl⟩
theorem dX9_init_52 : DI cX9_init 52 (.dup) 1 53 := ⟨by decide +kernel, rfl⟩
theorem dX9_init_53 : DI cX9_init 53 (.invokespecial 9) 3 56 := ⟨by decide +kernel, rfl⟩
theorem dX9_init_56 : DI cX9_init 56 (.putfield 25) 3 59 := ⟨by decide +kernel, rfl⟩
theorem dX9_init_59 : DI cX9_init 59 (.aload_n 0) 1 60 := ⟨by decide +kernel, rfl⟩
theorem dX9_init_60 : DI cX9_init 60 (.new 7) 3 63 := ⟨by decide +kernel, rfl⟩
theorem dX9_init_63 : DI cX9_init 63 (.dup) 1 64 := ⟨by decide +kernel, rfl⟩
theorem dX9_init_64 : DI cX9_init 64 (.invokespecial 9) 3 67 := ⟨by decide +kernel, rfl⟩
theorem dX9_init_67 : DI cX9_init 67 (.putfield 28) 3 70 := ⟨by decide +kernel, rfl⟩
theorem dX9_init_70 : DI cX9_init 70 (.aload_n 0) 1 71 := ⟨by decide +kernel, rfl⟩
theorem dX9_init_71 : DI cX9_init 71 (.iconst 0) 1 72 := ⟨by decide +kernel, rfl⟩
theorem dX9_init_72 : DI cX9_init 72 (.putfield 31) 3 75 := ⟨by decide +kernel, rfl⟩
theorem dX9_init_75 : DI cX9_init 75 (.aload_n 0) 1 76 := ⟨by decide +kernel, rfl⟩
theorem dX9_init_76 : DI cX9_init 76 (.sipush 10000) 3 79 := ⟨by decide +kernel, rfl⟩
theorem dX9_init_79 : DI cX9_init 79 (.putfield 35) 3 82 := ⟨by decide +kernel, rfl⟩
theorem dX9_init_82 : DI cX9_init 82 (.aload_n 0) 1 83 := ⟨by decide +kernel, rfl⟩
theorem dX9_init_83 : DI cX9_init 83 (.iconst 0) 1 84 := ⟨by decide +kernel, rfl⟩
theorem dX9_init_84 : DI cX9_init 84 (.putfield 38) 3 87 := ⟨by decide +kernel, rfl⟩
theorem dX9_init_87 : DI cX9_init 87 (.aload_n 0) 1 88 := ⟨by decide +kernel, rfl⟩
theorem dX9_init_88 : DI cX9_init 88 (.bipush 20) 2 90 := ⟨by decide +kernel, rfl⟩
theorem dX9_init_90 : DI cX9_init 90 (.putfield 41) 3 93 := ⟨by decide +kernel, rfl⟩
theorem dX9_init_93 : DI cX9_init 93 (.aload_n 0) 1 94 := ⟨by decide +kernel, rfl⟩
theorem dX9_init_94 : DI cX9_init 94 (.iconst 0) 1 95 := ⟨by decide +kernel, rfl⟩
theorem dX9_init_95 : DI cX9_init 95 (.putfield 44) 3 98 := ⟨by decide +kernel, rfl⟩
theorem dX9_init_98 : DI cX9_init 98 (.iconst 0) 1 99 := ⟨by decide +kernel, rfl⟩
theorem dX9_init_99 : DI cX9_init 99 (.istore_n 1) 1 100 := ⟨by decide +kernel, rfl⟩
theorem dX9_init_100 : DI cX9_init 100 (.iload_n 1) 1 101 := ⟨by decide +kernel, rfl⟩
theorem dX9_init_101 : DI cX9_init 101 (.iconst 3) 1 102 := ⟨by decide +kernel, rfl⟩
theorem dX9_init_102 : DB cX9_init 102 (.if_icmp .ge 24) (24) 3 105 126 := ⟨by decide +kernel, rfl, by decide⟩
theorem dX9_init_105 : DI cX9_init 105 (.aload_n 0) 1 106 := ⟨by decide +kernel, rfl⟩
theorem dX9_init_106 : DI cX9_init 106 (.getfield 10) 3 109 := ⟨by decide +kernel, rfl⟩
theorem dX9_init_109 : DI cX9_init 109 (.new 47) 3 112 := ⟨by decide +kernel, rfl⟩
theorem dX9_init_112 : DI cX9_init 112 (.dup) 1 113 := ⟨by decide +kernel, rfl⟩
theorem dX9_init_113 : DI cX9_init 113 (.invokespecial 49) 3 116 := ⟨by decide +kernel, rfl⟩
theorem dX9_init_116 : DI cX9_init 116 (.invokevirtual 50) 3 119 := ⟨by decide +kernel, rfl⟩
theorem dX9_init_119 : DI cX9_init 119 (.pop) 1 120 := ⟨by decide +kernel, rfl⟩
theorem dX9_init_120 : DI cX9_init 120 (.iinc 1 1) 3 123 := ⟨by decide +kernel, rfl⟩
theorem dX9_init_123 : DB cX9_init 123 (.goto (-23)) (-23) 3 126 100 := ⟨by decide +kernel, rfl, by decide⟩
theorem dX9_init_126 : DI cX9_init 126 (.return_) 1 127 := ⟨by decide +kernel, rfl⟩
theorem dX9_socket_0 : DI cX9_socket 0 (.aload_n 0) 1 1 := ⟨by decide +kernel, rfl⟩
theorem dX9_socket_1 : DI cX9_socket 1 (.iload_n 1) 1 2 := ⟨by decide +kernel, rfl⟩
theorem dX9_socket_2 : DI cX9_socket 2 (.invokevirtual 54) 3 5 := ⟨by decide +kernel, rfl⟩
theorem dX9_socket_5 : DI cX9_socket 5 (.astore_n 3) 1 6 := ⟨by decide +kernel, rfl⟩
theorem dX9_socket_6 : DI cX9_socket 6 (.iload_n 2) 1 7 := ⟨by decide +kernel, rfl⟩
theorem dX9_socket_7 : DI cX9_socket 7 (.sipush 1400) 3 10 := ⟨by decide +kernel, rfl⟩
theorem dX9_socket_10 : DI cX9_socket 10 (.ldc 58) 2 12 := ⟨by decide +kernel, rfl⟩
theorem dX9_socket_12 : DI cX9_socket 12 (.invokestatic 59) 3 15 := ⟨by decide +kernel, rfl⟩
theorem dX9_socket_15 : DI cX9_socket 15 (.aload_n 0) 1 16 := ⟨by decide +kernel, rfl⟩
theorem dX9_socket_16 : DI cX9_socket 16 (.getfield 16) 3 19 := ⟨by decide +kernel, rfl⟩
theorem dX9_socket_19 : DI cX9_socket 19 (.invokevirtual 63) 3 22 := ⟨by decide +kernel, rfl⟩
theorem dX9_socket_22 : DI cX9_socket 22 (.bipush 8) 2 24 := ⟨by decide +kernel, rfl⟩
theorem dX9_socket_24 : DI cX9_socket 24 (.invokestatic 67) 3 27 := ⟨by decide +kernel, rfl⟩
theorem dX9_socket_27 : DI cX9_socket 27 (.new 71) 3 30 := ⟨by decide +kernel, rfl⟩
theorem dX9_socket_30 : DI cX9_socket 30 (.dup) 1 31 := ⟨by decide +kernel, rfl⟩
theorem dX9_socket_31 : DI cX9_socket 31 (.aload_n 0) 1 32 := ⟨by decide +kernel, rfl⟩
theorem dX9_socket_32 : DI cX9_socket 32 (.getfield 16) 3 35 := ⟨by decide +kernel, rfl⟩
theorem dX9_socket_35 : DI cX9_socket 35 (.invokevirtual 63) 3 38 := ⟨by decide +kernel, rfl⟩
theorem dX9_socket_38 : DI cX9_socket 38 (.aload_n 3) 1 39 := ⟨by decide +kernel, rfl⟩
theorem dX9_socket_39 : DI cX9_socket 39 (.iload_n 2) 1 40 := ⟨by decide +kernel, rfl⟩
theorem dX9_socket_40 : DI cX9_socket 40 (.invokespecial 73) 3 43 := ⟨by decide +kernel, rfl⟩
theorem dX9_socket_43 : DI cX9_socket 43 (.astore 4) 2 45 := ⟨by decide +kernel, rfl⟩
theorem dX9_socket_45 : DI cX9_socket 45 (.aload_n 0) 1 46 := ⟨by decide +kernel, rfl⟩
theorem dX9_socket_46 : DI cX9_socket 46 (.getfield 16) 3 49 := ⟨by decide +kernel, rfl⟩
theorem dX9_socket_49 : DI cX9_socket 49 (.aload 4) 2 51 := ⟨by decide +kernel, rfl⟩
theorem dX9_socket_51 : DI cX9_socket 51 (.invokevirtual 50) 3 54 := ⟨by decide +kernel, rfl⟩
theorem dX9_socket_54 : DI cX9_socket 54 (.pop) 1 55 := ⟨by decide +kernel, rfl⟩
theorem dX9_socket_55 : DI cX9_socket 55 (.aload 4) 2 57 := ⟨by decide +kernel, rfl⟩
theorem dX9_socket_57 : DI cX9_socket 57 (.getfield 76) 3 60 := ⟨by decide +kernel, rfl⟩
theorem dX9_socket_60 : DI cX9_socket 60 (.ireturn) 1 61 := ⟨by decide +kernel, rfl⟩
theorem dX9_car_0 : DI cX9_car 0 (.iload_n 1) 1 1 := ⟨by decide +kernel, rfl⟩
theorem dX9_car_1 : DI cX9_car 1 (.iconst 1) 1 2 := ⟨by decide +kernel, rfl⟩
theorem dX9_car_2 : DI cX9_car 2 (.ldc 79) 2 4 := ⟨by decide +kernel, rfl⟩
theorem dX9_car_4 : DI cX9_car 4 (.invokestatic 59) 3 7 := ⟨by decide +kernel, rfl⟩
theorem dX9_car_7 : DI cX9_car 7 (.iload_n 2) 1 8 := ⟨by decide +kernel, rfl⟩
theorem dX9_car_8 : DI cX9_car 8 (.iconst 0) 1 9 := ⟨by decide +kernel, rfl⟩
theorem dX9_car_9 : DI cX9_car 9 (.iload_n 1) 1 10 := ⟨by decide +kernel, rfl⟩
theorem dX9_car_10 : DI cX9_car 10 (.invokestatic 59) 3 13 := ⟨by decide +kernel, rfl⟩
theorem dX9_car_13 : DI cX9_car 13 (.iload_n 3) 1 14 := ⟨by decide +kernel, rfl⟩
theorem dX9_car_14 : DI cX9_car 14 (.iconst 1) 1 15 := ⟨by decide +kernel, rfl⟩
theorem dX9_car_15 : DI cX9_car 15 (.ldc 58) 2 17 := ⟨by decide +kernel, rfl⟩
theorem dX9_car_17 : DI cX9_car 17 (.invokestatic 59) 3 20 := ⟨by decide +kernel, rfl⟩
theorem dX9_car_20 : DI cX9_car 20 (.aload_n 0) 1 21 := ⟨by decide +kernel, rfl⟩
theorem dX9_car_21 : DI cX9_car 21 (.getfield 19) 3 24 := ⟨by decide +kernel, rfl⟩
theorem dX9_car_24 : DI cX9_car 24 (.invokevirtual 63) 3 27 := ⟨by decide +kernel, rfl⟩
theorem dX9_car_27 : DI cX9_car 27 (.bipush 12) 2 29 := ⟨by decide +kernel, rfl⟩
theorem dX9_car_29 : DI cX9_car 29 (.invokestatic 67) 3 32 := ⟨by decide +kernel, rfl⟩
theorem dX9_car_32 : DI cX9_car 32 (.new 80) 3 35 := ⟨by decide +kernel, rfl⟩
theorem dX9_car_35 : DI cX9_car 35 (.dup) 1 36 := ⟨by decide +kernel, rfl⟩
theorem dX9_car_36 : DI cX9_car 36 (.aload_n 0) 1 37 := ⟨by decide +kernel, rfl⟩
theorem dX9_car_37 : DI cX9_car 37 (.getfield 19) 3 40 := ⟨by decide +kernel, rfl⟩
theorem dX9_car_40 : DI cX9_car 40 (.invokevirtual 63) 3 43 := ⟨by decide +kernel, rfl⟩
theorem dX9_car_43 : DI cX9_car 43 (.iload_n 1) 1 44 := ⟨by decide +kernel, rfl⟩
theorem dX9_car_44 : DI cX9_car 44 (.iload_n 2) 1 45 := ⟨by decide +kernel, rfl⟩
theorem dX9_car_45 : DI cX9_car 45 (.iload_n 3) 1 46 := ⟨by decide +kernel, rfl⟩
theorem dX9_car_46 : DI cX9_car 46 (.invokespecial 82) 3 49 := ⟨by decide +kernel, rfl⟩
theorem dX9_car_49 : DI cX9_car 49 (.astore 4) 2 51 := ⟨by decide +kernel, rfl⟩
theorem dX9_car_51 : DI cX9_car 51 (.aload_n 0) 1 52 := ⟨by decide +kernel, rfl⟩
theorem dX9_car_52 : DI cX9_car 52 (.getfield 19) 3 55 := ⟨by decide +kernel, rfl⟩
theorem dX9_car_55 : DI cX9_car 55 (.aload 4) 2 57 := ⟨by decide +kernel, rfl⟩
theorem dX9_car_57 : DI cX9_car 57 (.invokevirtual 50) 3 60 := ⟨by decide +kernel, rfl⟩
theorem dX9_car_60 : DI cX9_car 60 (.pop) 1 61 := ⟨by decide +kernel, rfl⟩
theorem dX9_car_61 : DI cX9_car 61 (.aload 4) 2 63 := ⟨by decide +kernel, rfl⟩
theorem dX9_car_63 : DI cX9_car 63 (.getfield 85) 3 66 := ⟨by decide +kernel, rfl⟩
theorem dX9_car_66 : DI cX9_car 66 (.ireturn) 1 67 := ⟨by decide +kernel, rfl⟩
theorem dX9_card_0 : DI cX9_card 0 (.aload_n 0) 1 1 := ⟨by decide +kernel, rfl⟩
theorem dX9_card_1 : DI cX9_card 1 (.iload_n 1) 1 2 := ⟨by decide +kernel, rfl⟩
theorem dX9_card_2 : DI cX9_card 2 (.invokevirtual 54) 3 5 := ⟨by decide +kernel, rfl⟩
theorem dX9_card_5 : DI cX9_card 5 (.astore_n 3) 1 6 := ⟨by decide +kernel, rfl⟩
theorem dX9_card_6 : DI cX9_card 6 (.iload_n 2) 1 7 := ⟨by decide +kernel, rfl⟩
theorem dX9_card_7 : DI cX9_card 7 (.iconst 0) 1 8 := ⟨by decide +kernel, rfl⟩
theorem dX9_card_8 : DI cX9_card 8 (.iconst 3) 1 9 := ⟨by decide +kernel, rfl⟩
theorem dX9_card_9 : DI cX9_card 9 (.invokestatic 59) 3 12 := ⟨by decide +kernel, rfl⟩
theorem dX9_card_12 : DI cX9_card 12 (.aload_n 0) 1 13 := ⟨by decide +kernel, rfl⟩
theorem dX9_card_13 : DI cX9_card 13 (.getfield 22) 3 16 := ⟨by decide +kernel, rfl⟩
theorem dX9_card_16 : DI cX9_card 16 (.invokevirtual 63) 3 19 := ⟨by decide +kernel, rfl⟩
theorem dX9_card_19 : DI cX9_card 19 (.bipush 12) 2 21 := ⟨by decide +kernel, rfl⟩
theorem dX9_card_21 : DI cX9_card 21 (.invokestatic 67) 3 24 := ⟨by decide +kernel, rfl⟩
theorem dX9_card_24 : DI cX9_card 24 (.aload_n 0) 1 25 := ⟨by decide +kernel, rfl⟩
theorem dX9_card_25 : DI cX9_card 25 (.getfield 22) 3 28 := ⟨by decide +kernel, rfl⟩
theorem dX9_card_28 : DI cX9_card 28 (.new 86) 3 31 := ⟨by decide +kernel, rfl⟩
theorem dX9_card_31 : DI cX9_card 31 (.dup) 1 32 := ⟨by decide +kernel, rfl⟩
theorem dX9_card_32 : DI cX9_card 32 (.aload_n 3) 1 33 := ⟨by decide +kernel, rfl⟩
theorem dX9_card_33 : DI cX9_card 33 (.iload_n 2) 1 34 := ⟨by decide +kernel, rfl⟩
theorem dX9_card_34 : DI cX9_card 34 (.invokespecial 88) 3 37 := ⟨by decide +kernel, rfl⟩
theorem dX9_card_37 : DI cX9_card 37 (.invokevirtual 50) 3 40 := ⟨by decide +kernel, rfl⟩
theorem dX9_card_40 : DI cX9_card 40 (.pop) 1 41 := ⟨by decide +kernel, rfl⟩
theorem dX9_card_41 : DI cX9_card 41 (.aload_n 0) 1 42 := ⟨by decide +kernel, rfl⟩
theorem dX9_card_42 : DI cX9_card 42 (.getfield 22) 3 45 := ⟨by decide +kernel, rfl⟩
theorem dX9_card_45 : DI cX9_card 45 (.invokevirtual 63) 3 48 := ⟨by decide +kernel, rfl⟩
theorem dX9_card_48 : DI cX9_card 48 (.iconst 1) 1 49 := ⟨by decide +kernel, rfl⟩
theorem dX9_card_49 : DI cX9_card 49 (.isub) 1 50 := ⟨by decide +kernel, rfl⟩
theorem dX9_card_50 : DI cX9_card 50 (.ireturn) 1 51 := ⟨by decide +kernel, rfl⟩
theorem dX9_good_0 : DI cX9_good 0 (.aload_n 0) 1 1 := ⟨by decide +kernel, rfl⟩
theorem dX9_good_1 : DI cX9_good 1 (.iload_n 1) 1 2 := ⟨by decide +kernel, rfl⟩
theorem dX9_good_2 : DI cX9_good 2 (.invokevirtual 91) 3 5 := ⟨by decide +kernel, rfl⟩
theorem dX9_good_5 : DI cX9_good 5 (.astore_n 3) 1 6 := ⟨by decide +kernel, rfl⟩
theorem dX9_good_6 : DI cX9_good 6 (.aload_n 3) 1 7 := ⟨by decide +kernel, rfl⟩
theorem dX9_good_7 : DI cX9_good 7 (.getfield 95) 3 10 := ⟨by decide +kernel, rfl⟩
theorem dX9_good_10 : DI cX9_good 10 (.istore 4) 2 12 := ⟨by decide +kernel, rfl⟩
theorem dX9_good_12 : DI cX9_good 12 (.aload_n 3) 1 13 := ⟨by decide +kernel, rfl⟩
theorem dX9_good_13 : DI cX9_good 13 (.iload_n 2) 1 14 := ⟨by decide +kernel, rfl⟩
theorem dX9_good_14 : DI cX9_good 14 (.putfield 95) 3 17 := ⟨by decide +kernel, rfl⟩
theorem dX9_good_17 : DI cX9_good 17 (.iload 4) 2 19 := ⟨by decide +kernel, rfl⟩
theorem dX9_good_19 : DI cX9_good 19 (.ireturn) 1 20 := ⟨by decide +kernel, rfl⟩
theorem dX9_set_0 : DI cX9_set 0 (.iload_n 1) 1 1 := ⟨by decide +kernel, rfl⟩
theorem dX9_set_1 : DB cX9_set 1 (.ifCond .ne 9) (9) 3 4 10 := ⟨by decide +kernel, rfl, by decide⟩
theorem dX9_set_4 : DI cX9_set 4 (.aload_n 0) 1 5 := ⟨by decide +kernel, rfl⟩
theorem dX9_set_5 : DI cX9_set 5 (.iload_n 2) 1 6 := ⟨by decide +kernel, rfl⟩
theorem dX9_set_6 : DI cX9_set 6 (.invokevirtual 99) 3 9 := ⟨by decide +kernel, rfl⟩
theorem dX9_set_9 : DI cX9_set 9 (.ireturn) 1 10 := ⟨by decide +kernel, rfl⟩
theorem dX9_set_10 : DI cX9_set 10 (.iload_n 1) 1 11 := ⟨by decide +kernel, rfl⟩
theorem dX9_set_11 : DI cX9_set 11 (.iconst 1) 1 12 := ⟨by decide +kernel, rfl⟩
theorem dX9_set_12 : DB cX9_set 12 (.if_icmp .ne 9) (9) 3 15 21 := ⟨by decide +kernel, rfl, by decide⟩
theorem dX9_set_15 : DI cX9_set 15 (.aload_n 0) 1 16 := ⟨by decide +kernel, rfl⟩
theorem dX9_set_16 : DI cX9_set 16 (.iload_n 2) 1 17 := ⟨by decide +kernel, rfl⟩
theorem dX9_set_17 : DI cX9_set 17 (.invokevirtual 103) 3 20 := ⟨by decide +kernel, rfl⟩
theorem dX9_set_20 : DI cX9_set 20 (.ireturn) 1 21 := ⟨by decide +kernel, rfl⟩
theorem dX9_set_21 : DI cX9_set 21 (.iload_n 1) 1 22 := ⟨by decide +kernel, rfl⟩
theorem dX9_set_22 : DI cX9_set 22 (.iconst 2) 1 23 := ⟨by decide +kernel, rfl⟩
theorem dX9_set_23 : DI cX9_set 23 (.iconst 2) 1 24 := ⟨by decide +kernel, rfl⟩
theorem dX9_set_24 : DI cX9_set 24 (.invokestatic 59) 3 27 := ⟨by decide +kernel, rfl⟩
theorem dX9_set_27 : DI cX9_set 27 (.aload_n 0) 1 28 := ⟨by decide +kernel, rfl⟩
theorem dX9_set_28 : DI cX9_set 28 (.iload_n 2) 1 29 := ⟨by decide +kernel, rfl⟩
theorem dX9_set_29 : DI cX9_set 29 (.invokevirtual 106) 3 32 := ⟨by decide +kernel, rfl⟩
theorem dX9_set_32 : DI cX9_set 32 (.ireturn) 1 33 := ⟨by decide +kernel, rfl⟩
theorem dX9_fault_0 : DI cX9_fault 0 (.aload_n 0) 1 1 := ⟨by decide +kernel, rfl⟩
theorem dX9_fault_1 : DI cX9_fault 1 (.iload_n 1) 1 2 := ⟨by decide +kernel, rfl⟩
theorem dX9_fault_2 : DI cX9_fault 2 (.invokevirtual 109) 3 5 := ⟨by decide +kernel, rfl⟩
theorem dX9_fault_5 : DI cX9_fault 5 (.astore_n 3) 1 6 := ⟨by decide +kernel, rfl⟩
theorem dX9_fault_6 : DI cX9_fault 6 (.aload_n 3) 1 7 := ⟨by decide +kernel, rfl⟩
theorem dX9_fault_7 : DI cX9_fault 7 (.getfield 113) 3 10 := ⟨by decide +kernel, rfl⟩
theorem dX9_fault_10 : DI cX9_fault 10 (.istore 4) 2 12 := ⟨by decide +kernel, rfl⟩
theorem dX9_fault_12 : DI cX9_fault 12 (.aload_n 3) 1 13 := ⟨by decide +kernel, rfl⟩
theorem dX9_fault_13 : DI cX9_fault 13 (.iload_n 2) 1 14 := ⟨by decide +kernel, rfl⟩
theorem dX9_fault_14 : DI cX9_fault 14 (.putfield 113) 3 17 := ⟨by decide +kernel, rfl⟩
theorem dX9_fault_17 : DI cX9_fault 17 (.iload 4) 2 19 := ⟨by decide +kernel, rfl⟩
theorem dX9_fault_19 : DI cX9_fault 19 (.ireturn) 1 20 := ⟨by decide +kernel, rfl⟩
theorem dX9_link_0 : DI cX9_link 0 (.aload_n 0) 1 1 := ⟨by decide +kernel, rfl⟩
theorem dX9_link_1 : DI cX9_link 1 (.iload_n 1) 1 2 := ⟨by decide +kernel, rfl⟩
theorem dX9_link_2 : DI cX9_link 2 (.invokevirtual 109) 3 5 := ⟨by decide +kernel, rfl⟩
theorem dX9_link_5 : DI cX9_link 5 (.astore_n 3) 1 6 := ⟨by decide +kernel, rfl⟩
theorem dX9_link_6 : DI cX9_link 6 (.aload_n 3) 1 7 := ⟨by decide +kernel, rfl⟩
theorem dX9_link_7 : DI cX9_link 7 (.getfield 116) 3 10 := ⟨by decide +kernel, rfl⟩
theorem dX9_link_10 : DI cX9_link 10 (.iload_n 2) 1 11 := ⟨by decide +kernel, rfl⟩
theorem dX9_link_11 : DB cX9_link 11 (.if_icmp .ne 5) (5) 3 14 16 := ⟨by decide +kernel, rfl, by decide⟩
theorem dX9_link_14 : DI cX9_link 14 (.iconst 0) 1 15 := ⟨by decide +kernel, rfl⟩
theorem dX9_link_15 : DI cX9_link 15 (.ireturn) 1 16 := ⟨by decide +kernel, rfl⟩
theorem dX9_link_16 : DI cX9_link 16 (.aload_n 3) 1 17 := ⟨by decide +kernel, rfl⟩
theorem dX9_link_17 : DI cX9_link 17 (.iload_n 2) 1 18 := ⟨by decide +kernel, rfl⟩
theorem dX9_link_18 : DI cX9_link 18 (.putfield 116) 3 21 := ⟨by decide +kernel, rfl⟩
theorem dX9_link_21 : DI cX9_link 21 (.iload_n 2) 1 22 := ⟨by decide +kernel, rfl⟩
theorem dX9_link_22 : DB cX9_link 22 (.ifCond .eq 9) (9) 3 25 31 := ⟨by decide +kernel, rfl, by decide⟩
theorem dX9_link_25 : DI cX9_link 25 (.aload_n 0) 1 26 := ⟨by decide +kernel, rfl⟩
theorem dX9_link_26 : DI cX9_link 26 (.aload_n 3) 1 27 := ⟨by decide +kernel, rfl⟩
theorem dX9_link_27 : DI cX9_link 27 (.invokevirtual 119) 3 30 := ⟨by decide +kernel, rfl⟩
theorem dX9_link_30 : DI cX9_link 30 (.ireturn) 1 31 := ⟨by decide +kernel, rfl⟩
theorem dX9_link_31 : DI cX9_link 31 (.aload_n 0) 1 32 := ⟨by decide +kernel, rfl⟩
theorem dX9_link_32 : DI cX9_link 32 (.aload_n 3) 1 33 := ⟨by decide +kernel, rfl⟩
theorem dX9_link_33 : DI cX9_link 33 (.invokevirtual 123) 3 36 := ⟨by decide +kernel, rfl⟩
theorem dX9_link_36 : DI cX9_link 36 (.iconst 0) 1 37 := ⟨by decide +kernel, rfl⟩
theorem dX9_link_37 : DI cX9_link 37 (.ireturn) 1 38 := ⟨by decide +kernel, rfl⟩
theorem dX9_tariff_0 : DI cX9_tariff 0 (.aload_n 0) 1 1 := ⟨by decide +kernel, rfl⟩
theorem dX9_tariff_1 : DI cX9_tariff 1 (.iload_n 1) 1 2 := ⟨by decide +kernel, rfl⟩
theorem dX9_tariff_2 : DI cX9_tariff 2 (.invokevirtual 54) 3 5 := ⟨by decide +kernel, rfl⟩
theorem dX9_tariff_5 : DI cX9_tariff 5 (.astore 6) 2 7 := ⟨by decide +kernel, rfl⟩
theorem dX9_tariff_7 : DI cX9_tariff 7 (.iload_n 2) 1 8 := ⟨by decide +kernel, rfl⟩
theorem dX9_tariff_8 : DI cX9_tariff 8 (.iconst 0) 1 9 := ⟨by decide +kernel, rfl⟩
theorem dX9_tariff_9 : DI cX9_tariff 9 (.sipush 1000) 3 12 := ⟨by decide +kernel, rfl⟩
theorem dX9_tariff_12 : DI cX9_tariff 12 (.invokestatic 59) 3 15 := ⟨by decide +kernel, rfl⟩
theorem dX9_tariff_15 : DI cX9_tariff 15 (.iload_n 3) 1 16 := ⟨by decide +kernel, rfl⟩
theorem dX9_tariff_16 : DI cX9_tariff 16 (.iconst 0) 1 17 := ⟨by decide +kernel, rfl⟩
theorem dX9_tariff_17 : DI cX9_tariff 17 (.sipush 1000) 3 20 := ⟨by decide +kernel, rfl⟩
theorem dX9_tariff_20 : DI cX9_tariff 20 (.invokestatic 59) 3 23 := ⟨by decide +kernel, rfl⟩
theorem dX9_tariff_23 : DI cX9_tariff 23 (.iload 4) 2 25 := ⟨by decide +kernel, rfl⟩
theorem dX9_tariff_25 : DI cX9_tariff 25 (.iconst 0) 1 26 := ⟨by decide +kernel, rfl⟩
theorem dX9_tariff_26 : DI cX9_tariff 26 (.sipush 1000) 3 29 := ⟨by decide +kernel, rfl⟩
theorem dX9_tariff_29 : DI cX9_tariff 29 (.invokestatic 59) 3 32 := ⟨by decide +kernel, rfl⟩
theorem dX9_tariff_32 : DI cX9_tariff 32 (.iload 5) 2 34 := ⟨by decide +kernel, rfl⟩
theorem dX9_tariff_34 : DI cX9_tariff 34 (.iconst 0) 1 35 := ⟨by decide +kernel, rfl⟩
theorem dX9_tariff_35 : DI cX9_tariff 35 (.sipush 1000) 3 38 := ⟨by decide +kernel, rfl⟩
theorem dX9_tariff_38 : DI cX9_tariff 38 (.invokestatic 59) 3 41 := ⟨by decide +kernel, rfl⟩
theorem dX9_tariff_41 : DI cX9_tariff 41 (.aload 6) 2 43 := ⟨by decide +kernel, rfl⟩
theorem dX9_tariff_43 : DI cX9_tariff 43 (.new 127) 3 46 := ⟨by decide +kernel, rfl⟩
theorem dX9_tariff_46 : DI cX9_tariff 46 (.dup) 1 47 := ⟨by decide +kernel, rfl⟩
theorem dX9_tariff_47 : DI cX9_tariff 47 (.iload_n 2) 1 48 := ⟨by decide +kernel, rfl⟩
theorem dX9_tariff_48 : DI cX9_tariff 48 (.iload_n 3) 1 49 := ⟨by decide +kernel, rfl⟩
theorem dX9_tariff_49 : DI cX9_tariff 49 (.iload 4) 2 51 := ⟨by decide +kernel, rfl⟩
theorem dX9_tariff_51 : DI cX9_tariff 51 (.iload 5) 2 53 := ⟨by decide +kernel, rfl⟩
theorem dX9_tariff_53 : DI cX9_tariff 53 (.invokespecial 129) 3 56 := ⟨by decide +kernel, rfl⟩
theorem dX9_tariff_56 : DI cX9_tariff 56 (.putfield 130) 3 59 := ⟨by decide +kernel, rfl⟩
theorem dX9_tariff_59 : DI cX9_tariff 59 (.return_) 1 60 := ⟨by decide +kernel, rfl⟩
theorem dX9_book_0 : DI cX9_book 0 (.aload_n 0) 1 1 := ⟨by decide +kernel, rfl⟩
theorem dX9_book_1 : DI cX9_book 1 (.iload_n 1) 1 2 := ⟨by decide +kernel, rfl⟩
theorem dX9_book_2 : DI cX9_book 2 (.invokevirtual 109) 3 5 := ⟨by decide +kernel, rfl⟩
theorem dX9_book_5 : DI cX9_book 5 (.astore 5) 2 7 := ⟨by decide +kernel, rfl⟩
theorem dX9_book_7 : DI cX9_book 7 (.aload_n 0) 1 8 := ⟨by decide +kernel, rfl⟩
theorem dX9_book_8 : DI cX9_book 8 (.iload_n 2) 1 9 := ⟨by decide +kernel, rfl⟩
theorem dX9_book_9 : DI cX9_book 9 (.invokevirtual 91) 3 12 := ⟨by decide +kernel, rfl⟩
theorem dX9_book_12 : DI cX9_book 12 (.astore 6) 2 14 := ⟨by decide +kernel, rfl⟩
theorem dX9_book_14 : DI cX9_book 14 (.iload_n 3) 1 15 := ⟨by decide +kernel, rfl⟩
theorem dX9_book_15 : DI cX9_book 15 (.aload_n 0) 1 16 := ⟨by decide +kernel, rfl⟩
theorem dX9_book_16 : DI cX9_book 16 (.getfield 31) 3 19 := ⟨by decide +kernel, rfl⟩
theorem dX9_book_19 : DI cX9_book 19 (.sipush 20000) 3 22 := ⟨by decide +kernel, rfl⟩
theorem dX9_book_22 : DI cX9_book 22 (.invokestatic 59) 3 25 := ⟨by decide +kernel, rfl⟩
theorem dX9_book_25 : DI cX9_book 25 (.iload 4) 2 27 := ⟨by decide +kernel, rfl⟩
theorem dX9_book_27 : DI cX9_book 27 (.bipush 15) 2 29 := ⟨by decide +kernel, rfl⟩
theorem dX9_book_29 : DI cX9_book 29 (.sipush 600) 3 32 := ⟨by decide +kernel, rfl⟩
theorem dX9_book_32 : DI cX9_book 32 (.invokestatic 59) 3 35 := ⟨by decide +kernel, rfl⟩
theorem dX9_book_35 : DI cX9_book 35 (.iload_n 3) 1 36 := ⟨by decide +kernel, rfl⟩
theorem dX9_book_36 : DI cX9_book 36 (.iload 4) 2 38 := ⟨by decide +kernel, rfl⟩
theorem dX9_book_38 : DI cX9_book 38 (.iadd) 1 39 := ⟨by decide +kernel, rfl⟩
theorem dX9_book_39 : DI cX9_book 39 (.istore 7) 2 41 := ⟨by decide +kernel, rfl⟩
theorem dX9_book_41 : DI cX9_book 41 (.aload 6) 2 43 := ⟨by decide +kernel, rfl⟩
theorem dX9_book_43 : DI cX9_book 43 (.getfield 95) 3 46 := ⟨by decide +kernel, rfl⟩
theorem dX9_book_46 : DB cX9_book 46 (.ifCond .eq 14) (14) 3 49 60 := ⟨by decide +kernel, rfl, by decide⟩
theorem dX9_book_49 : DI cX9_book 49 (.aload 5) 2 51 := ⟨by decide +kernel, rfl⟩
theorem dX9_book_51 : DI cX9_book 51 (.iload_n 3) 1 52 := ⟨by decide +kernel, rfl⟩
theorem dX9_book_52 : DI cX9_book 52 (.iload 7) 2 54 := ⟨by decide +kernel, rfl⟩
theorem dX9_book_54 : DI cX9_book 54 (.invokestatic 134) 3 57 := ⟨by decide +kernel, rfl⟩
theorem dX9_book_57 : DB cX9_book 57 (.ifCond .eq 13) (13) 3 60 70 := ⟨by decide +kernel, rfl, by decide⟩
theorem dX9_book_60 : DI cX9_book 60 (.new 138) 3 63 := ⟨by decide +kernel, rfl⟩
theorem dX9_book_63 : DI cX9_book 63 (.dup) 1 64 := ⟨by decide +kernel, rfl⟩
theorem dX9_book_64 : DI cX9_book 64 (.ldc 140) 2 66 := ⟨by decide +kernel, rfl⟩
theorem dX9_book_66 : DI cX9_book 66 (.invokespecial 142) 3 69 := ⟨by decide +kernel, rfl⟩
theorem dX9_book_69 : DI cX9_book 69 (.athrow) 1 70 := ⟨by decide +kernel, rfl⟩
theorem dX9_book_70 : DI cX9_book 70 (.aload 5) 2 72 := ⟨by decide +kernel, rfl⟩
theorem dX9_book_72 : DI cX9_book 72 (.getfield 145) 3 75 := ⟨by decide +kernel, rfl⟩
theorem dX9_book_75 : DI cX9_book 75 (.new 148) 3 78 := ⟨by decide +kernel, rfl⟩
theorem dX9_book_78 : DI cX9_book 78 (.dup) 1 79 := ⟨by decide +kernel, rfl⟩
theorem dX9_book_79 : DI cX9_book 79 (.aload 6) 2 81 := ⟨by decide +kernel, rfl⟩
theorem dX9_book_81 : DI cX9_book 81 (.iload_n 3) 1 82 := ⟨by decide +kernel, rfl⟩
theorem dX9_book_82 : DI cX9_book 82 (.iload 7) 2 84 := ⟨by decide +kernel, rfl⟩
theorem dX9_book_84 : DI cX9_book 84 (.invokespecial 150) 3 87 := ⟨by decide +kernel, rfl⟩
theorem dX9_book_87 : DI cX9_book 87 (.invokevirtual 50) 3 90 := ⟨by decide +kernel, rfl⟩
theorem dX9_book_90 : DI cX9_book 90 (.pop) 1 91 := ⟨by decide +kernel, rfl⟩
theorem dX9_book_91 : DI cX9_book 91 (.aload 5) 2 93 := ⟨by decide +kernel, rfl⟩
theorem dX9_book_93 : DI cX9_book 93 (.getfield 145) 3 96 := ⟨by decide +kernel, rfl⟩
theorem dX9_book_96 : DI cX9_book 96 (.invokevirtual 63) 3 99 := ⟨by decide +kernel, rfl⟩
theorem dX9_book_99 : DI cX9_book 99 (.ireturn) 1 100 := ⟨by decide +kernel, rfl⟩
theorem dX9_plug_0 : DI cX9_plug 0 (.aload_n 0) 1 1 := ⟨by decide +kernel, rfl⟩
theorem dX9_plug_1 : DI cX9_plug 1 (.iload_n 1) 1 2 := ⟨by decide +kernel, rfl⟩
theorem dX9_plug_2 : DI cX9_plug 2 (.invokevirtual 109) 3 5 := ⟨by decide +kernel, rfl⟩
theorem dX9_plug_5 : DI cX9_plug 5 (.astore 4) 2 7 := ⟨by decide +kernel, rfl⟩
theorem dX9_plug_7 : DI cX9_plug 7 (.aload_n 0) 1 8 := ⟨by decide +kernel, rfl⟩
theorem dX9_plug_8 : DI cX9_plug 8 (.iload_n 2) 1 9 := ⟨by decide +kernel, rfl⟩
theorem dX9_plug_9 : DI cX9_plug 9 (.invokevirtual 153) 3 12 := ⟨by decide +kernel, rfl⟩
theorem dX9_plug_12 : DI cX9_plug 12 (.astore 5) 2 14 := ⟨by decide +kernel, rfl⟩
theorem dX9_plug_14 : DI cX9_plug 14 (.aload_n 0) 1 15 := ⟨by decide +kernel, rfl⟩
theorem dX9_plug_15 : DI cX9_plug 15 (.iload_n 3) 1 16 := ⟨by decide +kernel, rfl⟩
theorem dX9_plug_16 : DI cX9_plug 16 (.invokevirtual 91) 3 19 := ⟨by decide +kernel, rfl⟩
theorem dX9_plug_19 : DI cX9_plug 19 (.astore 6) 2 21 := ⟨by decide +kernel, rfl⟩
theorem dX9_plug_21 : DI cX9_plug 21 (.aload_n 0) 1 22 := ⟨by decide +kernel, rfl⟩
theorem dX9_plug_22 : DI cX9_plug 22 (.getfield 25) 3 25 := ⟨by decide +kernel, rfl⟩
theorem dX9_plug_25 : DI cX9_plug 25 (.invokevirtual 63) 3 28 := ⟨by decide +kernel, rfl⟩
theorem dX9_plug_28 : DI cX9_plug 28 (.bipush 40) 2 30 := ⟨by decide +kernel, rfl⟩
theorem dX9_plug_30 : DI cX9_plug 30 (.invokestatic 67) 3 33 := ⟨by decide +kernel, rfl⟩
theorem dX9_plug_33 : DI cX9_plug 33 (.aload_n 0) 1 34 := ⟨by decide +kernel, rfl⟩
theorem dX9_plug_34 : DI cX9_plug 34 (.aload 4) 2 36 := ⟨by decide +kernel, rfl⟩
theorem dX9_plug_36 : DI cX9_plug 36 (.aload 5) 2 38 := ⟨by decide +kernel, rfl⟩
theorem dX9_plug_38 : DI cX9_plug 38 (.aload 6) 2 40 := ⟨by decide +kernel, rfl⟩
theorem dX9_plug_40 : DI cX9_plug 40 (.invokevirtual 157) 3 43 := ⟨by decide +kernel, rfl⟩
theorem dX9_plug_43 : DI cX9_plug 43 (.istore 7) 2 45 := ⟨by decide +kernel, rfl⟩
theorem dX9_plug_45 : DI cX9_plug 45 (.iload 7) 2 47 := ⟨by decide +kernel, rfl⟩
theorem dX9_plug_47 : DB cX9_plug 47 (.ifCond .eq 6) (6) 3 50 53 := ⟨by decide +kernel, rfl, by decide⟩
theorem dX9_plug_50 : DI cX9_plug 50 (.iload 7) 2 52 := ⟨by decide +kernel, rfl⟩
theorem dX9_plug_52 : DI cX9_plug 52 (.ireturn) 1 53 := ⟨by decide +kernel, rfl⟩
theorem dX9_plug_53 : DI cX9_plug 53 (.aload_n 0) 1 54 := ⟨by decide +kernel, rfl⟩
theorem dX9_plug_54 : DI cX9_plug 54 (.new 161) 3 57 := ⟨by decide +kernel, rfl⟩
theorem dX9_plug_57 : DI cX9_plug 57 (.dup) 1 58 := ⟨by decide +kernel, rfl⟩
theorem dX9_plug_58 : DI cX9_plug 58 (.aload 4) 2 60 := ⟨by decide +kernel, rfl⟩
theorem dX9_plug_60 : DI cX9_plug 60 (.aload 5) 2 62 := ⟨by decide +kernel, rfl⟩
theorem dX9_plug_62 : DI cX9_plug 62 (.aload 6) 2 64 := ⟨by decide +kernel, rfl⟩
theorem dX9_plug_64 : DI cX9_plug 64 (.aload_n 0) 1 65 := ⟨by decide +kernel, rfl⟩
theorem dX9_plug_65 : DI cX9_plug 65 (.getfield 31) 3 68 := ⟨by decide +kernel, rfl⟩
theorem dX9_plug_68 : DI cX9_plug 68 (.invokespecial 163) 3 71 := ⟨by decide +kernel, rfl⟩
theorem dX9_plug_71 : DI cX9_plug 71 (.invokevirtual 166) 3 74 := ⟨by decide +kernel, rfl⟩
theorem dX9_plug_74 : DI cX9_plug 74 (.aload_n 0) 1 75 := ⟨by decide +kernel, rfl⟩
theorem dX9_plug_75 : DI cX9_plug 75 (.getfield 25) 3 78 := ⟨by decide +kernel, rfl⟩
theorem dX9_plug_78 : DI cX9_plug 78 (.invokevirtual 63) 3 81 := ⟨by decide +kernel, rfl⟩
theorem dX9_plug_81 : DI cX9_plug 81 (.iconst 1) 1 82 := ⟨by decide +kernel, rfl⟩
theorem dX9_plug_82 : DI cX9_plug 82 (.isub) 1 83 := ⟨by decide +kernel, rfl⟩
theorem dX9_plug_83 : DI cX9_plug 83 (.ireturn) 1 84 := ⟨by decide +kernel, rfl⟩
theorem dX9_unplug_0 : DI cX9_unplug 0 (.aload_n 0) 1 1 := ⟨by decide +kernel, rfl⟩
theorem dX9_unplug_1 : DI cX9_unplug 1 (.iload_n 1) 1 2 := ⟨by decide +kernel, rfl⟩
theorem dX9_unplug_2 : DI cX9_unplug 2 (.invokevirtual 170) 3 5 := ⟨by decide +kernel, rfl⟩
theorem dX9_unplug_5 : DI cX9_unplug 5 (.astore_n 2) 1 6 := ⟨by decide +kernel, rfl⟩
theorem dX9_unplug_6 : DI cX9_unplug 6 (.aload_n 2) 1 7 := ⟨by decide +kernel, rfl⟩
theorem dX9_unplug_7 : DI cX9_unplug 7 (.getfield 174) 3 10 := ⟨by decide +kernel, rfl⟩
theorem dX9_unplug_10 : DB cX9_unplug 10 (.ifCond .eq 13) (13) 3 13 23 := ⟨by decide +kernel, rfl, by decide⟩
theorem dX9_unplug_13 : DI cX9_unplug 13 (.new 138) 3 16 := ⟨by decide +kernel, rfl⟩
theorem dX9_unplug_16 : DI cX9_unplug 16 (.dup) 1 17 := ⟨by decide +kernel, rfl⟩
theorem dX9_unplug_17 : DI cX9_unplug 17 (.ldc 177) 2 19 := ⟨by decide +kernel, rfl⟩
theorem dX9_unplug_19 : DI cX9_unplug 19 (.invokespecial 142) 3 22 := ⟨by decide +kernel, rfl⟩
theorem dX9_unplug_22 : DI cX9_unplug 22 (.athrow) 1 23 := ⟨by decide +kernel, rfl⟩
theorem dX9_unplug_23 : DI cX9_unplug 23 (.aload_n 2) 1 24 := ⟨by decide +kernel, rfl⟩
theorem dX9_unplug_24 : DI cX9_unplug 24 (.iconst 1) 1 25 := ⟨by decide +kernel, rfl⟩
theorem dX9_unplug_25 : DI cX9_unplug 25 (.putfield 174) 3 28 := ⟨by decide +kernel, rfl⟩
theorem dX9_unplug_28 : DI cX9_unplug 28 (.aload_n 2) 1 29 := ⟨by decide +kernel, rfl⟩
theorem dX9_unplug_29 : DI cX9_unplug 29 (.getfield 179) 3 32 := ⟨by decide +kernel, rfl⟩
theorem dX9_unplug_32 : DI cX9_unplug 32 (.iconst 0) 1 33 := ⟨by decide +kernel, rfl⟩
theorem dX9_unplug_33 : DI cX9_unplug 33 (.putfield 183) 3 36 := ⟨by decide +kernel, rfl⟩
theorem dX9_unplug_36 : DI cX9_unplug 36 (.aload_n 2) 1 37 := ⟨by decide +kernel, rfl⟩
theorem dX9_unplug_37 : DI cX9_unplug 37 (.getfield 186) 3 40 := ⟨by decide +kernel, rfl⟩
theorem dX9_unplug_40 : DI cX9_unplug 40 (.aconst_null) 1 41 := ⟨by decide +kernel, rfl⟩
theorem dX9_unplug_41 : DI cX9_unplug 41 (.putfield 190) 3 44 := ⟨by decide +kernel, rfl⟩
theorem dX9_unplug_44 : DI cX9_unplug 44 (.aload_n 0) 1 45 := ⟨by decide +kernel, rfl⟩
theorem dX9_unplug_45 : DI cX9_unplug 45 (.aload_n 2) 1 46 := ⟨by decide +kernel, rfl⟩
theorem dX9_unplug_46 : DI cX9_unplug 46 (.invokevirtual 194) 3 49 := ⟨by decide +kernel, rfl⟩
theorem dX9_unplug_49 : DI cX9_unplug 49 (.aload_n 2) 1 50 := ⟨by decide +kernel, rfl⟩
theorem dX9_unplug_50 : DI cX9_unplug 50 (.invokestatic 197) 3 53 := ⟨by decide +kernel, rfl⟩
theorem dX9_unplug_53 : DI cX9_unplug 53 (.aload_n 2) 1 54 := ⟨by decide +kernel, rfl⟩
theorem dX9_unplug_54 : DI cX9_unplug 54 (.getfield 200) 3 57 := ⟨by decide +kernel, rfl⟩
theorem dX9_unplug_57 : DI cX9_unplug 57 (.getfield 204) 3 60 := ⟨by decide +kernel, rfl⟩
theorem dX9_unplug_60 : DI cX9_unplug 60 (.aload_n 2) 1 61 := ⟨by decide +kernel, rfl⟩
theorem dX9_unplug_61 : DI cX9_unplug 61 (.getfield 200) 3 64 := ⟨by decide +kernel, rfl⟩
theorem dX9_unplug_64 : DI cX9_unplug 64 (.getfield 209) 3 67 := ⟨by decide +kernel, rfl⟩
theorem dX9_unplug_67 : DI cX9_unplug 67 (.isub) 1 68 := ⟨by decide +kernel, rfl⟩
theorem dX9_unplug_68 : DI cX9_unplug 68 (.ireturn) 1 69 := ⟨by decide +kernel, rfl⟩
theorem dX9_pass_0 : DI cX9_pass 0 (.iload_n 1) 1 1 := ⟨by decide +kernel, rfl⟩
theorem dX9_pass_1 : DI cX9_pass 1 (.iconst 1) 1 2 := ⟨by decide +kernel, rfl⟩
theorem dX9_pass_2 : DI cX9_pass 2 (.bipush 120) 2 4 := ⟨by decide +kernel, rfl⟩
theorem dX9_pass_4 : DI cX9_pass 4 (.invokestatic 59) 3 7 := ⟨by decide +kernel, rfl⟩
theorem dX9_pass_7 : DI cX9_pass 7 (.aload_n 0) 1 8 := ⟨by decide +kernel, rfl⟩
theorem dX9_pass_8 : DI cX9_pass 8 (.getfield 31) 3 11 := ⟨by decide +kernel, rfl⟩
theorem dX9_pass_11 : DI cX9_pass 11 (.iload_n 1) 1 12 := ⟨by decide +kernel, rfl⟩
theorem dX9_pass_12 : DI cX9_pass 12 (.iadd) 1 13 := ⟨by decide +kernel, rfl⟩
theorem dX9_pass_13 : DI cX9_pass 13 (.sipush 20000) 3 16 := ⟨by decide +kernel, rfl⟩
theorem dX9_pass_16 : DB cX9_pass 16 (.if_icmp .le 13) (13) 3 19 29 := ⟨by decide +kernel, rfl, by decide⟩
theorem dX9_pass_19 : DI cX9_pass 19 (.new 138) 3 22 := ⟨by decide +kernel, rfl⟩
theorem dX9_pass_22 : DI cX9_pass 22 (.dup) 1 23 := ⟨by decide +kernel, rfl⟩
theorem dX9_pass_23 : DI cX9_pass 23 (.ldc 212) 2 25 := ⟨by decide +kernel, rfl⟩
theorem dX9_pass_25 : DI cX9_pass 25 (.invokespecial 142) 3 28 := ⟨by decide +kernel, rfl⟩
theorem dX9_pass_28 : DI cX9_pass 28 (.athrow) 1 29 := ⟨by decide +kernel, rfl⟩
theorem dX9_pass_29 : DI cX9_pass 29 (.iconst 0) 1 30 := ⟨by decide +kernel, rfl⟩
theorem dX9_pass_30 : DI cX9_pass 30 (.istore_n 2) 1 31 := ⟨by decide +kernel, rfl⟩
theorem dX9_pass_31 : DI cX9_pass 31 (.iload_n 2) 1 32 := ⟨by decide +kernel, rfl⟩
theorem dX9_pass_32 : DI cX9_pass 32 (.iload_n 1) 1 33 := ⟨by decide +kernel, rfl⟩
theorem dX9_pass_33 : DB cX9_pass 33 (.if_icmp .ge 13) (13) 3 36 46 := ⟨by decide +kernel, rfl, by decide⟩
theorem dX9_pass_36 : DI cX9_pass 36 (.aload_n 0) 1 37 := ⟨by decide +kernel, rfl⟩
theorem dX9_pass_37 : DI cX9_pass 37 (.invokevirtual 214) 3 40 := ⟨by decide +kernel, rfl⟩
theorem dX9_pass_40 : DI cX9_pass 40 (.iinc 2 1) 3 43 := ⟨by decide +kernel, rfl⟩
theorem dX9_pass_43 : DB cX9_pass 43 (.goto (-12)) (-12) 3 46 31 := ⟨by decide +kernel, rfl, by decide⟩
theorem dX9_pass_46 : DI cX9_pass 46 (.aload_n 0) 1 47 := ⟨by decide +kernel, rfl⟩
theorem dX9_pass_47 : DI cX9_pass 47 (.invokevirtual 217) 3 50 := ⟨by decide +kernel, rfl⟩
theorem dX9_pass_50 : DI cX9_pass 50 (.aload_n 0) 1 51 := ⟨by decide +kernel, rfl⟩
theorem dX9_pass_51 : DI cX9_pass 51 (.getfield 31) 3 54 := ⟨by decide +kernel, rfl⟩
theorem dX9_pass_54 : DI cX9_pass 54 (.ireturn) 1 55 := ⟨by decide +kernel, rfl⟩
theorem dX9_of_0 : DI cX9_of 0 (.aload_n 0) 1 1 := ⟨by decide +kernel, rfl⟩
theorem dX9_of_1 : DI cX9_of 1 (.iload_n 1) 1 2 := ⟨by decide +kernel, rfl⟩
theorem dX9_of_2 : DI cX9_of 2 (.invokevirtual 170) 3 5 := ⟨by decide +kernel, rfl⟩
theorem dX9_of_5 : DI cX9_of 5 (.astore_n 3) 1 6 := ⟨by decide +kernel, rfl⟩
theorem dX9_of_6 : DI cX9_of 6 (.iload_n 2) 1 7 := ⟨by decide +kernel, rfl⟩
theorem dX9_of_7 : DI cX9_of 7 (.tableswitch 88 0 6 #[41, 46, 51, 59, 67, 72, 80]) 41 48 := ⟨by decide +kernel, rfl⟩
theorem dX9_of_48 : DI cX9_of 48 (.aload_n 3) 1 49 := ⟨by decide +kernel, rfl⟩
theorem dX9_of_49 : DI cX9_of 49 (.getfield 220) 3 52 := ⟨by decide +kernel, rfl⟩
theorem dX9_of_52 : DI cX9_of 52 (.ireturn) 1 53 := ⟨by decide +kernel, rfl⟩
theorem dX9_of_53 : DI cX9_of 53 (.aload_n 3) 1 54 := ⟨by decide +kernel, rfl⟩
theorem dX9_of_54 : DI cX9_of 54 (.getfield 223) 3 57 := ⟨by decide +kernel, rfl⟩
theorem dX9_of_57 : DI cX9_of 57 (.ireturn) 1 58 := ⟨by decide +kernel, rfl⟩
theorem dX9_of_58 : DI cX9_of 58 (.aload_n 3) 1 59 := ⟨by decide +kernel, rfl⟩
theorem dX9_of_59 : DI cX9_of 59 (.getfield 200) 3 62 := ⟨by decide +kernel, rfl⟩
theorem dX9_of_62 : DI cX9_of 62 (.getfield 204) 3 65 := ⟨by decide +kernel, rfl⟩
theorem dX9_of_65 : DI cX9_of 65 (.ireturn) 1 66 := ⟨by decide +kernel, rfl⟩
theorem dX9_of_66 : DI cX9_of 66 (.aload_n 3) 1 67 := ⟨by decide +kernel, rfl⟩
theorem dX9_of_67 : DI cX9_of 67 (.getfield 200) 3 70 := ⟨by decide +kernel, rfl⟩
theorem dX9_of_70 : DI cX9_of 70 (.getfield 209) 3 73 := ⟨by decide +kernel, rfl⟩
theorem dX9_of_73 : DI cX9_of 73 (.ireturn) 1 74 := ⟨by decide +kernel, rfl⟩
theorem dX9_of_74 : DI cX9_of 74 (.aload_n 3) 1 75 := ⟨by decide +kernel, rfl⟩
theorem dX9_of_75 : DI cX9_of 75 (.invokevirtual 226) 3 78 := ⟨by decide +kernel, rfl⟩
theorem dX9_of_78 : DI cX9_of 78 (.ireturn) 1 79 := ⟨by decide +kernel, rfl⟩
theorem dX9_of_79 : DI cX9_of 79 (.aload_n 3) 1 80 := ⟨by decide +kernel, rfl⟩
theorem dX9_of_80 : DI cX9_of 80 (.getfield 179) 3 83 := ⟨by decide +kernel, rfl⟩
theorem dX9_of_83 : DI cX9_of 83 (.getfield 85) 3 86 := ⟨by decide +kernel, rfl⟩
theorem dX9_of_86 : DI cX9_of 86 (.ireturn) 1 87 := ⟨by decide +kernel, rfl⟩
theorem dX9_of_87 : DI cX9_of 87 (.aload_n 3) 1 88 := ⟨by decide +kernel, rfl⟩
theorem dX9_of_88 : DI cX9_of 88 (.getfield 186) 3 91 := ⟨by decide +kernel, rfl⟩
theorem dX9_of_91 : DI cX9_of 91 (.getfield 76) 3 94 := ⟨by decide +kernel, rfl⟩
theorem dX9_of_94 : DI cX9_of 94 (.ireturn) 1 95 := ⟨by decide +kernel, rfl⟩
theorem dX9_of_95 : DI cX9_of 95 (.new 229) 3 98 := ⟨by decide +kernel, rfl⟩
theorem dX9_of_98 : DI cX9_of 98 (.dup) 1 99 := ⟨by decide +kernel, rfl⟩
theorem dX9_of_99 : DI cX9_of 99 (.ldc 231) 2 101 := ⟨by decide +kernel, rfl⟩
theorem dX9_of_101 : DI cX9_of 101 (.invokespecial 233) 3 104 := ⟨by decide +kernel, rfl⟩
theorem dX9_of_104 : DI cX9_of 104 (.athrow) 1 105 := ⟨by decide +kernel, rfl⟩
theorem dX9_charge_0 : DI cX9_charge 0 (.aload_n 0) 1 1 := ⟨by decide +kernel, rfl⟩
theorem dX9_charge_1 : DI cX9_charge 1 (.iload_n 1) 1 2 := ⟨by decide +kernel, rfl⟩
theorem dX9_charge_2 : DI cX9_charge 2 (.invokevirtual 153) 3 5 := ⟨by decide +kernel, rfl⟩
theorem dX9_charge_5 : DI cX9_charge 5 (.getfield 234) 3 8 := ⟨by decide +kernel, rfl⟩
theorem dX9_charge_8 : DI cX9_charge 8 (.ireturn) 1 9 := ⟨by decide +kernel, rfl⟩
theorem dX9_power_0 : DI cX9_power 0 (.aload_n 0) 1 1 := ⟨by decide +kernel, rfl⟩
theorem dX9_power_1 : DI cX9_power 1 (.iload_n 1) 1 2 := ⟨by decide +kernel, rfl⟩
theorem dX9_power_2 : DI cX9_power 2 (.invokevirtual 170) 3 5 := ⟨by decide +kernel, rfl⟩
theorem dX9_power_5 : DI cX9_power 5 (.astore_n 2) 1 6 := ⟨by decide +kernel, rfl⟩
theorem dX9_power_6 : DI cX9_power 6 (.aload_n 2) 1 7 := ⟨by decide +kernel, rfl⟩
theorem dX9_power_7 : DI cX9_power 7 (.getfield 174) 3 10 := ⟨by decide +kernel, rfl⟩
theorem dX9_power_10 : DB cX9_power 10 (.ifCond .eq 5) (5) 3 13 15 := ⟨by decide +kernel, rfl, by decide⟩
theorem dX9_power_13 : DI cX9_power 13 (.iconst 0) 1 14 := ⟨by decide +kernel, rfl⟩
theorem dX9_power_14 : DI cX9_power 14 (.ireturn) 1 15 := ⟨by decide +kernel, rfl⟩
theorem dX9_power_15 : DI cX9_power 15 (.aload_n 0) 1 16 := ⟨by decide +kernel, rfl⟩
theorem dX9_power_16 : DI cX9_power 16 (.aload_n 0) 1 17 := ⟨by decide +kernel, rfl⟩
theorem dX9_power_17 : DI cX9_power 17 (.invokevirtual 237) 3 20 := ⟨by decide +kernel, rfl⟩
theorem dX9_power_20 : DI cX9_power 20 (.invokevirtual 240) 3 23 := ⟨by decide +kernel, rfl⟩
theorem dX9_power_23 : DI cX9_power 23 (.aload_n 2) 1 24 := ⟨by decide +kernel, rfl⟩
theorem dX9_power_24 : DI cX9_power 24 (.getfield 244) 3 27 := ⟨by decide +kernel, rfl⟩
theorem dX9_power_27 : DI cX9_power 27 (.ireturn) 1 28 := ⟨by decide +kernel, rfl⟩
theorem dX9_powerAnew_0 : DI cX9_powerAnew 0 (.aload_n 0) 1 1 := ⟨by decide +kernel, rfl⟩
theorem dX9_powerAnew_1 : DI cX9_powerAnew 1 (.iload_n 1) 1 2 := ⟨by decide +kernel, rfl⟩
theorem dX9_powerAnew_2 : DI cX9_powerAnew 2 (.invokevirtual 170) 3 5 := ⟨by decide +kernel, rfl⟩
theorem dX9_powerAnew_5 : DI cX9_powerAnew 5 (.astore_n 2) 1 6 := ⟨by decide +kernel, rfl⟩
theorem dX9_powerAnew_6 : DI cX9_powerAnew 6 (.aload_n 2) 1 7 := ⟨by decide +kernel, rfl⟩
theorem dX9_powerAnew_7 : DI cX9_powerAnew 7 (.getfield 174) 3 10 := ⟨by decide +kernel, rfl⟩
theorem dX9_powerAnew_10 : DB cX9_powerAnew 10 (.ifCond .eq 5) (5) 3 13 15 := ⟨by decide +kernel, rfl, by decide⟩
theorem dX9_powerAnew_13 : DI cX9_powerAnew 13 (.iconst 0) 1 14 := ⟨by decide +kernel, rfl⟩
theorem dX9_powerAnew_14 : DI cX9_powerAnew 14 (.ireturn) 1 15 := ⟨by decide +kernel, rfl⟩
theorem dX9_powerAnew_15 : DI cX9_powerAnew 15 (.aload_n 0) 1 16 := ⟨by decide +kernel, rfl⟩
theorem dX9_powerAnew_16 : DI cX9_powerAnew 16 (.aload_n 0) 1 17 := ⟨by decide +kernel, rfl⟩
theorem dX9_powerAnew_17 : DI cX9_powerAnew 17 (.invokevirtual 237) 3 20 := ⟨by decide +kernel, rfl⟩
theorem dX9_powerAnew_20 : DI cX9_powerAnew 20 (.invokevirtual 247) 3 23 := ⟨by decide +kernel, rfl⟩
theorem dX9_powerAnew_23 : DI cX9_powerAnew 23 (.aload_n 2) 1 24 := ⟨by decide +kernel, rfl⟩
theorem dX9_powerAnew_24 : DI cX9_powerAnew 24 (.getfield 244) 3 27 := ⟨by decide +kernel, rfl⟩
theorem dX9_powerAnew_27 : DI cX9_powerAnew 27 (.ireturn) 1 28 := ⟨by decide +kernel, rfl⟩
theorem dX9_overloads_0 : DI cX9_overloads 0 (.aload_n 0) 1 1 := ⟨by decide +kernel, rfl⟩
theorem dX9_overloads_1 : DI cX9_overloads 1 (.getfield 44) 3 4 := ⟨by decide +kernel, rfl⟩
theorem dX9_overloads_4 : DI cX9_overloads 4 (.ireturn) 1 5 := ⟨by decide +kernel, rfl⟩
theorem dX9_bill_0 : DI cX9_bill 0 (.aload_n 0) 1 1 := ⟨by decide +kernel, rfl⟩
theorem dX9_bill_1 : DI cX9_bill 1 (.iload_n 1) 1 2 := ⟨by decide +kernel, rfl⟩
theorem dX9_bill_2 : DI cX9_bill 2 (.invokevirtual 170) 3 5 := ⟨by decide +kernel, rfl⟩
theorem dX9_bill_5 : DI cX9_bill 5 (.invokevirtual 250) 3 8 := ⟨by decide +kernel, rfl⟩
theorem dX9_bill_8 : DI cX9_bill 8 (.ireturn) 1 9 := ⟨by decide +kernel, rfl⟩
theorem dX9_billAnew_0 : DI cX9_billAnew 0 (.aload_n 0) 1 1 := ⟨by decide +kernel, rfl⟩
theorem dX9_billAnew_1 : DI cX9_billAnew 1 (.iload_n 1) 1 2 := ⟨by decide +kernel, rfl⟩
theorem dX9_billAnew_2 : DI cX9_billAnew 2 (.invokevirtual 170) 3 5 := ⟨by decide +kernel, rfl⟩
theorem dX9_billAnew_5 : DI cX9_billAnew 5 (.invokevirtual 253) 3 8 := ⟨by decide +kernel, rfl⟩
theorem dX9_billAnew_8 : DI cX9_billAnew 8 (.ireturn) 1 9 := ⟨by decide +kernel, rfl⟩
theorem dX9_dispute_0 : DI cX9_dispute 0 (.aload_n 0) 1 1 := ⟨by decide +kernel, rfl⟩
theorem dX9_dispute_1 : DI cX9_dispute 1 (.iload_n 1) 1 2 := ⟨by decide +kernel, rfl⟩
theorem dX9_dispute_2 : DI cX9_dispute 2 (.invokevirtual 170) 3 5 := ⟨by decide +kernel, rfl⟩
theorem dX9_dispute_5 : DI cX9_dispute 5 (.astore_n 3) 1 6 := ⟨by decide +kernel, rfl⟩
theorem dX9_dispute_6 : DI cX9_dispute 6 (.iload_n 2) 1 7 := ⟨by decide +kernel, rfl⟩
theorem dX9_dispute_7 : DI cX9_dispute 7 (.iconst 1) 1 8 := ⟨by decide +kernel, rfl⟩
theorem dX9_dispute_8 : DI cX9_dispute 8 (.bipush 100) 2 10 := ⟨by decide +kernel, rfl⟩
theorem dX9_dispute_10 : DI cX9_dispute 10 (.invokestatic 59) 3 13 := ⟨by decide +kernel, rfl⟩
theorem dX9_dispute_13 : DI cX9_dispute 13 (.aload_n 3) 1 14 := ⟨by decide +kernel, rfl⟩
theorem dX9_dispute_14 : DI cX9_dispute 14 (.getfield 256) 3 17 := ⟨by decide +kernel, rfl⟩
theorem dX9_dispute_17 : DB cX9_dispute 17 (.ifCond .eq 10) (10) 3 20 27 := ⟨by decide +kernel, rfl, by decide⟩
theorem dX9_dispute_20 : DI cX9_dispute 20 (.aload_n 3) 1 21 := ⟨by decide +kernel, rfl⟩
theorem dX9_dispute_21 : DI cX9_dispute 21 (.getfield 259) 3 24 := ⟨by decide +kernel, rfl⟩
theorem dX9_dispute_24 : DB cX9_dispute 24 (.ifCond .eq 14) (14) 3 27 38 := ⟨by decide +kernel, rfl, by decide⟩
theorem dX9_dispute_27 : DI cX9_dispute 27 (.new 138) 3 30 := ⟨by decide +kernel, rfl⟩
theorem dX9_dispute_30 : DI cX9_dispute 30 (.dup) 1 31 := ⟨by decide +kernel, rfl⟩
theorem dX9_dispute_31 : DI cX9_dispute 31 (.ldc_w 262) 3 34 := ⟨by decide +kernel, rfl⟩
theorem dX9_dispute_34 : DI cX9_dispute 34 (.invokespecial 142) 3 37 := ⟨by decide +kernel, rfl⟩
theorem dX9_dispute_37 : DI cX9_dispute 37 (.athrow) 1 38 := ⟨by decide +kernel, rfl⟩
theorem dX9_dispute_38 : DI cX9_dispute 38 (.aload_n 3) 1 39 := ⟨by decide +kernel, rfl⟩
theorem dX9_dispute_39 : DI cX9_dispute 39 (.iconst 1) 1 40 := ⟨by decide +kernel, rfl⟩
theorem dX9_dispute_40 : DI cX9_dispute 40 (.putfield 259) 3 43 := ⟨by decide +kernel, rfl⟩
theorem dX9_dispute_43 : DI cX9_dispute 43 (.aload_n 3) 1 44 := ⟨by decide +kernel, rfl⟩
theorem dX9_dispute_44 : DI cX9_dispute 44 (.invokevirtual 250) 3 47 := ⟨by decide +kernel, rfl⟩
theorem dX9_dispute_47 : DI cX9_dispute 47 (.iload_n 2) 1 48 := ⟨by decide +kernel, rfl⟩
theorem dX9_dispute_48 : DI cX9_dispute 48 (.invokestatic 264) 3 51 := ⟨by decide +kernel, rfl⟩
theorem dX9_dispute_51 : DI cX9_dispute 51 (.istore 4) 2 53 := ⟨by decide +kernel, rfl⟩
theorem dX9_dispute_53 : DI cX9_dispute 53 (.aload_n 3) 1 54 := ⟨by decide +kernel, rfl⟩
theorem dX9_dispute_54 : DI cX9_dispute 54 (.iload 4) 2 56 := ⟨by decide +kernel, rfl⟩
theorem dX9_dispute_56 : DI cX9_dispute 56 (.ineg) 1 57 := ⟨by decide +kernel, rfl⟩
theorem dX9_dispute_57 : DI cX9_dispute 57 (.iload 4) 2 59 := ⟨by decide +kernel, rfl⟩
theorem dX9_dispute_59 : DI cX9_dispute 59 (.bipush 95) 2 61 := ⟨by decide +kernel, rfl⟩
theorem dX9_dispute_61 : DI cX9_dispute 61 (.invokestatic 264) 3 64 := ⟨by decide +kernel, rfl⟩
theorem dX9_dispute_64 : DI cX9_dispute 64 (.ineg) 1 65 := ⟨by decide +kernel, rfl⟩
theorem dX9_dispute_65 : DI cX9_dispute 65 (.invokestatic 268) 3 68 := ⟨by decide +kernel, rfl⟩
theorem dX9_dispute_68 : DI cX9_dispute 68 (.iload 4) 2 70 := ⟨by decide +kernel, rfl⟩
theorem dX9_dispute_70 : DI cX9_dispute 70 (.ireturn) 1 71 := ⟨by decide +kernel, rfl⟩
theorem dX9_owes_0 : DI cX9_owes 0 (.aload_n 0) 1 1 := ⟨by decide +kernel, rfl⟩
theorem dX9_owes_1 : DI cX9_owes 1 (.iload_n 1) 1 2 := ⟨by decide +kernel, rfl⟩
theorem dX9_owes_2 : DI cX9_owes 2 (.invokevirtual 91) 3 5 := ⟨by decide +kernel, rfl⟩
theorem dX9_owes_5 : DI cX9_owes 5 (.getfield 272) 3 8 := ⟨by decide +kernel, rfl⟩
theorem dX9_owes_8 : DI cX9_owes 8 (.ireturn) 1 9 := ⟨by decide +kernel, rfl⟩
theorem dX9_account_0 : DI cX9_account 0 (.aload_n 0) 1 1 := ⟨by decide +kernel, rfl⟩
theorem dX9_account_1 : DI cX9_account 1 (.iload_n 1) 1 2 := ⟨by decide +kernel, rfl⟩
theorem dX9_account_2 : DI cX9_account 2 (.invokevirtual 54) 3 5 := ⟨by decide +kernel, rfl⟩
theorem dX9_account_5 : DI cX9_account 5 (.getfield 275) 3 8 := ⟨by decide +kernel, rfl⟩
theorem dX9_account_8 : DI cX9_account 8 (.ireturn) 1 9 := ⟨by decide +kernel, rfl⟩
theorem dX9_firmAt_0 : DI cX9_firmAt 0 (.iload_n 1) 1 1 := ⟨by decide +kernel, rfl⟩
theorem dX9_firmAt_1 : DB cX9_firmAt 1 (.ifCond .lt 14) (14) 3 4 15 := ⟨by decide +kernel, rfl, by decide⟩
theorem dX9_firmAt_4 : DI cX9_firmAt 4 (.iload_n 1) 1 5 := ⟨by decide +kernel, rfl⟩
theorem dX9_firmAt_5 : DI cX9_firmAt 5 (.aload_n 0) 1 6 := ⟨by decide +kernel, rfl⟩
theorem dX9_firmAt_6 : DI cX9_firmAt 6 (.getfield 10) 3 9 := ⟨by decide +kernel, rfl⟩
theorem dX9_firmAt_9 : DI cX9_firmAt 9 (.invokevirtual 63) 3 12 := ⟨by decide +kernel, rfl⟩
theorem dX9_firmAt_12 : DB cX9_firmAt 12 (.if_icmp .lt 14) (14) 3 15 26 := ⟨by decide +kernel, rfl, by decide⟩
theorem dX9_firmAt_15 : DI cX9_firmAt 15 (.new 278) 3 18 := ⟨by decide +kernel, rfl⟩
theorem dX9_firmAt_18 : DI cX9_firmAt 18 (.dup) 1 19 := ⟨by decide +kernel, rfl⟩
theorem dX9_firmAt_19 : DI cX9_firmAt 19 (.ldc_w 280) 3 22 := ⟨by decide +kernel, rfl⟩
theorem dX9_firmAt_22 : DI cX9_firmAt 22 (.invokespecial 282) 3 25 := ⟨by decide +kernel, rfl⟩
theorem dX9_firmAt_25 : DI cX9_firmAt 25 (.athrow) 1 26 := ⟨by decide +kernel, rfl⟩
theorem dX9_firmAt_26 : DI cX9_firmAt 26 (.aload_n 0) 1 27 := ⟨by decide +kernel, rfl⟩
theorem dX9_firmAt_27 : DI cX9_firmAt 27 (.getfield 10) 3 30 := ⟨by decide +kernel, rfl⟩
theorem dX9_firmAt_30 : DI cX9_firmAt 30 (.iload_n 1) 1 31 := ⟨by decide +kernel, rfl⟩
theorem dX9_firmAt_31 : DI cX9_firmAt 31 (.invokevirtual 283) 3 34 := ⟨by decide +kernel, rfl⟩
theorem dX9_firmAt_34 : DI cX9_firmAt 34 (.checkcast 47) 3 37 := ⟨by decide +kernel, rfl⟩
theorem dX9_firmAt_37 : DI cX9_firmAt 37 (.areturn) 1 38 := ⟨by decide +kernel, rfl⟩
theorem dX9_socketAt_0 : DI cX9_socketAt 0 (.iload_n 1) 1 1 := ⟨by decide +kernel, rfl⟩
theorem dX9_socketAt_1 : DB cX9_socketAt 1 (.ifCond .lt 14) (14) 3 4 15 := ⟨by decide +kernel, rfl, by decide⟩
theorem dX9_socketAt_4 : DI cX9_socketAt 4 (.iload_n 1) 1 5 := ⟨by decide +kernel, rfl⟩
theorem dX9_socketAt_5 : DI cX9_socketAt 5 (.aload_n 0) 1 6 := ⟨by decide +kernel, rfl⟩
theorem dX9_socketAt_6 : DI cX9_socketAt 6 (.getfield 16) 3 9 := ⟨by decide +kernel, rfl⟩
theorem dX9_socketAt_9 : DI cX9_socketAt 9 (.invokevirtual 63) 3 12 := ⟨by decide +kernel, rfl⟩
theorem dX9_socketAt_12 : DB cX9_socketAt 12 (.if_icmp .lt 14) (14) 3 15 26 := ⟨by decide +kernel, rfl, by decide⟩
theorem dX9_socketAt_15 : DI cX9_socketAt 15 (.new 278) 3 18 := ⟨by decide +kernel, rfl⟩
theorem dX9_socketAt_18 : DI cX9_socketAt 18 (.dup) 1 19 := ⟨by decide +kernel, rfl⟩
theorem dX9_socketAt_19 : DI cX9_socketAt 19 (.ldc_w 287) 3 22 := ⟨by decide +kernel, rfl⟩
theorem dX9_socketAt_22 : DI cX9_socketAt 22 (.invokespecial 282) 3 25 := ⟨by decide +kernel, rfl⟩
theorem dX9_socketAt_25 : DI cX9_socketAt 25 (.athrow) 1 26 := ⟨by decide +kernel, rfl⟩
theorem dX9_socketAt_26 : DI cX9_socketAt 26 (.aload_n 0) 1 27 := ⟨by decide +kernel, rfl⟩
theorem dX9_socketAt_27 : DI cX9_socketAt 27 (.getfield 16) 3 30 := ⟨by decide +kernel, rfl⟩
theorem dX9_socketAt_30 : DI cX9_socketAt 30 (.iload_n 1) 1 31 := ⟨by decide +kernel, rfl⟩
theorem dX9_socketAt_31 : DI cX9_socketAt 31 (.invokevirtual 283) 3 34 := ⟨by decide +kernel, rfl⟩
theorem dX9_socketAt_34 : DI cX9_socketAt 34 (.checkcast 71) 3 37 := ⟨by decide +kernel, rfl⟩
theorem dX9_socketAt_37 : DI cX9_socketAt 37 (.areturn) 1 38 := ⟨by decide +kernel, rfl⟩
theorem dX9_carAt_0 : DI cX9_carAt 0 (.iload_n 1) 1 1 := ⟨by decide +kernel, rfl⟩
theorem dX9_carAt_1 : DB cX9_carAt 1 (.ifCond .lt 14) (14) 3 4 15 := ⟨by decide +kernel, rfl, by decide⟩
theorem dX9_carAt_4 : DI cX9_carAt 4 (.iload_n 1) 1 5 := ⟨by decide +kernel, rfl⟩
theorem dX9_carAt_5 : DI cX9_carAt 5 (.aload_n 0) 1 6 := ⟨by decide +kernel, rfl⟩
theorem dX9_carAt_6 : DI cX9_carAt 6 (.getfield 19) 3 9 := ⟨by decide +kernel, rfl⟩
theorem dX9_carAt_9 : DI cX9_carAt 9 (.invokevirtual 63) 3 12 := ⟨by decide +kernel, rfl⟩
theorem dX9_carAt_12 : DB cX9_carAt 12 (.if_icmp .lt 14) (14) 3 15 26 := ⟨by decide +kernel, rfl, by decide⟩
theorem dX9_carAt_15 : DI cX9_carAt 15 (.new 278) 3 18 := ⟨by decide +kernel, rfl⟩
theorem dX9_carAt_18 : DI cX9_carAt 18 (.dup) 1 19 := ⟨by decide +kernel, rfl⟩
theorem dX9_carAt_19 : DI cX9_carAt 19 (.ldc_w 289) 3 22 := ⟨by decide +kernel, rfl⟩
theorem dX9_carAt_22 : DI cX9_carAt 22 (.invokespecial 282) 3 25 := ⟨by decide +kernel, rfl⟩
theorem dX9_carAt_25 : DI cX9_carAt 25 (.athrow) 1 26 := ⟨by decide +kernel, rfl⟩
theorem dX9_carAt_26 : DI cX9_carAt 26 (.aload_n 0) 1 27 := ⟨by decide +kernel, rfl⟩
theorem dX9_carAt_27 : DI cX9_carAt 27 (.getfield 19) 3 30 := ⟨by decide +kernel, rfl⟩
theorem dX9_carAt_30 : DI cX9_carAt 30 (.iload_n 1) 1 31 := ⟨by decide +kernel, rfl⟩
theorem dX9_carAt_31 : DI cX9_carAt 31 (.invokevirtual 283) 3 34 := ⟨by decide +kernel, rfl⟩
theorem dX9_carAt_34 : DI cX9_carAt 34 (.checkcast 80) 3 37 := ⟨by decide +kernel, rfl⟩
theorem dX9_carAt_37 : DI cX9_carAt 37 (.areturn) 1 38 := ⟨by decide +kernel, rfl⟩
theorem dX9_cardAt_0 : DI cX9_cardAt 0 (.iload_n 1) 1 1 := ⟨by decide +kernel, rfl⟩
theorem dX9_cardAt_1 : DB cX9_cardAt 1 (.ifCond .lt 14) (14) 3 4 15 := ⟨by decide +kernel, rfl, by decide⟩
theorem dX9_cardAt_4 : DI cX9_cardAt 4 (.iload_n 1) 1 5 := ⟨by decide +kernel, rfl⟩
theorem dX9_cardAt_5 : DI cX9_cardAt 5 (.aload_n 0) 1 6 := ⟨by decide +kernel, rfl⟩
theorem dX9_cardAt_6 : DI cX9_cardAt 6 (.getfield 22) 3 9 := ⟨by decide +kernel, rfl⟩
theorem dX9_cardAt_9 : DI cX9_cardAt 9 (.invokevirtual 63) 3 12 := ⟨by decide +kernel, rfl⟩
theorem dX9_cardAt_12 : DB cX9_cardAt 12 (.if_icmp .lt 14) (14) 3 15 26 := ⟨by decide +kernel, rfl, by decide⟩
theorem dX9_cardAt_15 : DI cX9_cardAt 15 (.new 278) 3 18 := ⟨by decide +kernel, rfl⟩
theorem dX9_cardAt_18 : DI cX9_cardAt 18 (.dup) 1 19 := ⟨by decide +kernel, rfl⟩
theorem dX9_cardAt_19 : DI cX9_cardAt 19 (.ldc_w 291) 3 22 := ⟨by decide +kernel, rfl⟩
theorem dX9_cardAt_22 : DI cX9_cardAt 22 (.invokespecial 282) 3 25 := ⟨by decide +kernel, rfl⟩
theorem dX9_cardAt_25 : DI cX9_cardAt 25 (.athrow) 1 26 := ⟨by decide +kernel, rfl⟩
theorem dX9_cardAt_26 : DI cX9_cardAt 26 (.aload_n 0) 1 27 := ⟨by decide +kernel, rfl⟩
theorem dX9_cardAt_27 : DI cX9_cardAt 27 (.getfield 22) 3 30 := ⟨by decide +kernel, rfl⟩
theorem dX9_cardAt_30 : DI cX9_cardAt 30 (.iload_n 1) 1 31 := ⟨by decide +kernel, rfl⟩
theorem dX9_cardAt_31 : DI cX9_cardAt 31 (.invokevirtual 283) 3 34 := ⟨by decide +kernel, rfl⟩
theorem dX9_cardAt_34 : DI cX9_cardAt 34 (.checkcast 86) 3 37 := ⟨by decide +kernel, rfl⟩
theorem dX9_cardAt_37 : DI cX9_cardAt 37 (.areturn) 1 38 := ⟨by decide +kernel, rfl⟩
theorem dX9_sessionAt_0 : DI cX9_sessionAt 0 (.iload_n 1) 1 1 := ⟨by decide +kernel, rfl⟩
theorem dX9_sessionAt_1 : DB cX9_sessionAt 1 (.ifCond .lt 14) (14) 3 4 15 := ⟨by decide +kernel, rfl, by decide⟩
theorem dX9_sessionAt_4 : DI cX9_sessionAt 4 (.iload_n 1) 1 5 := ⟨by decide +kernel, rfl⟩
theorem dX9_sessionAt_5 : DI cX9_sessionAt 5 (.aload_n 0) 1 6 := ⟨by decide +kernel, rfl⟩
theorem dX9_sessionAt_6 : DI cX9_sessionAt 6 (.getfield 25) 3 9 := ⟨by decide +kernel, rfl⟩
theorem dX9_sessionAt_9 : DI cX9_sessionAt 9 (.invokevirtual 63) 3 12 := ⟨by decide +kernel, rfl⟩
theorem dX9_sessionAt_12 : DB cX9_sessionAt 12 (.if_icmp .lt 14) (14) 3 15 26 := ⟨by decide +kernel, rfl, by decide⟩
theorem dX9_sessionAt_15 : DI cX9_sessionAt 15 (.new 278) 3 18 := ⟨by decide +kernel, rfl⟩
theorem dX9_sessionAt_18 : DI cX9_sessionAt 18 (.dup) 1 19 := ⟨by decide +kernel, rfl⟩
theorem dX9_sessionAt_19 : DI cX9_sessionAt 19 (.ldc_w 293) 3 22 := ⟨by decide +kernel, rfl⟩
theorem dX9_sessionAt_22 : DI cX9_sessionAt 22 (.invokespecial 282) 3 25 := ⟨by decide +kernel, rfl⟩
theorem dX9_sessionAt_25 : DI cX9_sessionAt 25 (.athrow) 1 26 := ⟨by decide +kernel, rfl⟩
theorem dX9_sessionAt_26 : DI cX9_sessionAt 26 (.aload_n 0) 1 27 := ⟨by decide +kernel, rfl⟩
theorem dX9_sessionAt_27 : DI cX9_sessionAt 27 (.getfield 25) 3 30 := ⟨by decide +kernel, rfl⟩
theorem dX9_sessionAt_30 : DI cX9_sessionAt 30 (.iload_n 1) 1 31 := ⟨by decide +kernel, rfl⟩
theorem dX9_sessionAt_31 : DI cX9_sessionAt 31 (.invokevirtual 283) 3 34 := ⟨by decide +kernel, rfl⟩
theorem dX9_sessionAt_34 : DI cX9_sessionAt 34 (.checkcast 161) 3 37 := ⟨by decide +kernel, rfl⟩
theorem dX9_sessionAt_37 : DI cX9_sessionAt 37 (.areturn) 1 38 := ⟨by decide +kernel, rfl⟩
theorem dX9_needWithin_0 : DI cX9_needWithin 0 (.iload_n 0) 1 1 := ⟨by decide +kernel, rfl⟩
theorem dX9_needWithin_1 : DI cX9_needWithin 1 (.iload_n 1) 1 2 := ⟨by decide +kernel, rfl⟩
theorem dX9_needWithin_2 : DB cX9_needWithin 2 (.if_icmp .lt 8) (8) 3 5 10 := ⟨by decide +kernel, rfl, by decide⟩
theorem dX9_needWithin_5 : DI cX9_needWithin 5 (.iload_n 0) 1 6 := ⟨by decide +kernel, rfl⟩
theorem dX9_needWithin_6 : DI cX9_needWithin 6 (.iload_n 2) 1 7 := ⟨by decide +kernel, rfl⟩
theorem dX9_needWithin_7 : DB cX9_needWithin 7 (.if_icmp .le 14) (14) 3 10 21 := ⟨by decide +kernel, rfl, by decide⟩
theorem dX9_needWithin_10 : DI cX9_needWithin 10 (.new 229) 3 13 := ⟨by decide +kernel, rfl⟩
theorem dX9_needWithin_13 : DI cX9_needWithin 13 (.dup) 1 14 := ⟨by decide +kernel, rfl⟩
theorem dX9_needWithin_14 : DI cX9_needWithin 14 (.ldc_w 295) 3 17 := ⟨by decide +kernel, rfl⟩
theorem dX9_needWithin_17 : DI cX9_needWithin 17 (.invokespecial 233) 3 20 := ⟨by decide +kernel, rfl⟩
theorem dX9_needWithin_20 : DI cX9_needWithin 20 (.athrow) 1 21 := ⟨by decide +kernel, rfl⟩
theorem dX9_needWithin_21 : DI cX9_needWithin 21 (.return_) 1 22 := ⟨by decide +kernel, rfl⟩
theorem dX9_needRoom_0 : DI cX9_needRoom 0 (.iload_n 0) 1 1 := ⟨by decide +kernel, rfl⟩
theorem dX9_needRoom_1 : DI cX9_needRoom 1 (.iload_n 1) 1 2 := ⟨by decide +kernel, rfl⟩
theorem dX9_needRoom_2 : DB cX9_needRoom 2 (.if_icmp .lt 14) (14) 3 5 16 := ⟨by decide +kernel, rfl, by decide⟩
theorem dX9_needRoom_5 : DI cX9_needRoom 5 (.new 138) 3 8 := ⟨by decide +kernel, rfl⟩
theorem dX9_needRoom_8 : DI cX9_needRoom 8 (.dup) 1 9 := ⟨by decide +kernel, rfl⟩
theorem dX9_needRoom_9 : DI cX9_needRoom 9 (.ldc_w 297) 3 12 := ⟨by decide +kernel, rfl⟩
theorem dX9_needRoom_12 : DI cX9_needRoom 12 (.invokespecial 142) 3 15 := ⟨by decide +kernel, rfl⟩
theorem dX9_needRoom_15 : DI cX9_needRoom 15 (.athrow) 1 16 := ⟨by decide +kernel, rfl⟩
theorem dX9_needRoom_16 : DI cX9_needRoom 16 (.return_) 1 17 := ⟨by decide +kernel, rfl⟩
theorem dX9_setLimit_0 : DI cX9_setLimit 0 (.iload_n 1) 1 1 := ⟨by decide +kernel, rfl⟩
theorem dX9_setLimit_1 : DI cX9_setLimit 1 (.iconst 0) 1 2 := ⟨by decide +kernel, rfl⟩
theorem dX9_setLimit_2 : DI cX9_setLimit 2 (.ldc_w 299) 3 5 := ⟨by decide +kernel, rfl⟩
theorem dX9_setLimit_5 : DI cX9_setLimit 5 (.invokestatic 59) 3 8 := ⟨by decide +kernel, rfl⟩
theorem dX9_setLimit_8 : DI cX9_setLimit 8 (.aload_n 0) 1 9 := ⟨by decide +kernel, rfl⟩
theorem dX9_setLimit_9 : DI cX9_setLimit 9 (.getfield 35) 3 12 := ⟨by decide +kernel, rfl⟩
theorem dX9_setLimit_12 : DI cX9_setLimit 12 (.istore_n 2) 1 13 := ⟨by decide +kernel, rfl⟩
theorem dX9_setLimit_13 : DI cX9_setLimit 13 (.aload_n 0) 1 14 := ⟨by decide +kernel, rfl⟩
theorem dX9_setLimit_14 : DI cX9_setLimit 14 (.iload_n 1) 1 15 := ⟨by decide +kernel, rfl⟩
theorem dX9_setLimit_15 : DI cX9_setLimit 15 (.putfield 35) 3 18 := ⟨by decide +kernel, rfl⟩
theorem dX9_setLimit_18 : DI cX9_setLimit 18 (.iload_n 2) 1 19 := ⟨by decide +kernel, rfl⟩
theorem dX9_setLimit_19 : DI cX9_setLimit 19 (.ireturn) 1 20 := ⟨by decide +kernel, rfl⟩
theorem dX9_setSun_0 : DI cX9_setSun 0 (.iload_n 1) 1 1 := ⟨by decide +kernel, rfl⟩
theorem dX9_setSun_1 : DI cX9_setSun 1 (.iconst 0) 1 2 := ⟨by decide +kernel, rfl⟩
theorem dX9_setSun_2 : DI cX9_setSun 2 (.ldc_w 300) 3 5 := ⟨by decide +kernel, rfl⟩
theorem dX9_setSun_5 : DI cX9_setSun 5 (.invokestatic 59) 3 8 := ⟨by decide +kernel, rfl⟩
theorem dX9_setSun_8 : DI cX9_setSun 8 (.aload_n 0) 1 9 := ⟨by decide +kernel, rfl⟩
theorem dX9_setSun_9 : DI cX9_setSun 9 (.getfield 38) 3 12 := ⟨by decide +kernel, rfl⟩
theorem dX9_setSun_12 : DI cX9_setSun 12 (.istore_n 2) 1 13 := ⟨by decide +kernel, rfl⟩
theorem dX9_setSun_13 : DI cX9_setSun 13 (.aload_n 0) 1 14 := ⟨by decide +kernel, rfl⟩
theorem dX9_setSun_14 : DI cX9_setSun 14 (.iload_n 1) 1 15 := ⟨by decide +kernel, rfl⟩
theorem dX9_setSun_15 : DI cX9_setSun 15 (.putfield 38) 3 18 := ⟨by decide +kernel, rfl⟩
theorem dX9_setSun_18 : DI cX9_setSun 18 (.iload_n 2) 1 19 := ⟨by decide +kernel, rfl⟩
theorem dX9_setSun_19 : DI cX9_setSun 19 (.ireturn) 1 20 := ⟨by decide +kernel, rfl⟩
theorem dX9_setDegrees_0 : DI cX9_setDegrees 0 (.iload_n 1) 1 1 := ⟨by decide +kernel, rfl⟩
theorem dX9_setDegrees_1 : DI cX9_setDegrees 1 (.bipush (-50)) 2 3 := ⟨by decide +kernel, rfl⟩
theorem dX9_setDegrees_3 : DI cX9_setDegrees 3 (.bipush 50) 2 5 := ⟨by decide +kernel, rfl⟩
theorem dX9_setDegrees_5 : DI cX9_setDegrees 5 (.invokestatic 59) 3 8 := ⟨by decide +kernel, rfl⟩
theorem dX9_setDegrees_8 : DI cX9_setDegrees 8 (.aload_n 0) 1 9 := ⟨by decide +kernel, rfl⟩
theorem dX9_setDegrees_9 : DI cX9_setDegrees 9 (.getfield 41) 3 12 := ⟨by decide +kernel, rfl⟩
theorem dX9_setDegrees_12 : DI cX9_setDegrees 12 (.istore_n 2) 1 13 := ⟨by decide +kernel, rfl⟩
theorem dX9_setDegrees_13 : DI cX9_setDegrees 13 (.aload_n 0) 1 14 := ⟨by decide +kernel, rfl⟩
theorem dX9_setDegrees_14 : DI cX9_setDegrees 14 (.iload_n 1) 1 15 := ⟨by decide +kernel, rfl⟩
theorem dX9_setDegrees_15 : DI cX9_setDegrees 15 (.putfield 41) 3 18 := ⟨by decide +kernel, rfl⟩
theorem dX9_setDegrees_18 : DI cX9_setDegrees 18 (.iload_n 2) 1 19 := ⟨by decide +kernel, rfl⟩
theorem dX9_setDegrees_19 : DI cX9_setDegrees 19 (.ireturn) 1 20 := ⟨by decide +kernel, rfl⟩
theorem dX9_goDown_0 : DI cX9_goDown 0 (.aload_n 1) 1 1 := ⟨by decide +kernel, rfl⟩
theorem dX9_goDown_1 : DI cX9_goDown 1 (.aload_n 0) 1 2 := ⟨by decide +kernel, rfl⟩
theorem dX9_goDown_2 : DI cX9_goDown 2 (.getfield 31) 3 5 := ⟨by decide +kernel, rfl⟩
theorem dX9_goDown_5 : DI cX9_goDown 5 (.putfield 301) 3 8 := ⟨by decide +kernel, rfl⟩
theorem dX9_goDown_8 : DI cX9_goDown 8 (.aload_n 1) 1 9 := ⟨by decide +kernel, rfl⟩
theorem dX9_goDown_9 : DI cX9_goDown 9 (.getfield 190) 3 12 := ⟨by decide +kernel, rfl⟩
theorem dX9_goDown_12 : DI cX9_goDown 12 (.astore_n 2) 1 13 := ⟨by decide +kernel, rfl⟩
theorem dX9_goDown_13 : DI cX9_goDown 13 (.aload_n 2) 1 14 := ⟨by decide +kernel, rfl⟩
theorem dX9_goDown_14 : DB cX9_goDown 14 (.ifnull 16) (16) 3 17 30 := ⟨by decide +kernel, rfl, by decide⟩
theorem dX9_goDown_17 : DI cX9_goDown 17 (.aload_n 2) 1 18 := ⟨by decide +kernel, rfl⟩
theorem dX9_goDown_18 : DI cX9_goDown 18 (.aload_n 2) 1 19 := ⟨by decide +kernel, rfl⟩
theorem dX9_goDown_19 : DI cX9_goDown 19 (.getfield 220) 3 22 := ⟨by decide +kernel, rfl⟩
theorem dX9_goDown_22 : DI cX9_goDown 22 (.putfield 304) 3 25 := ⟨by decide +kernel, rfl⟩
theorem dX9_goDown_25 : DI cX9_goDown 25 (.aload_n 2) 1 26 := ⟨by decide +kernel, rfl⟩
theorem dX9_goDown_26 : DI cX9_goDown 26 (.iconst 0) 1 27 := ⟨by decide +kernel, rfl⟩
theorem dX9_goDown_27 : DI cX9_goDown 27 (.putfield 307) 3 30 := ⟨by decide +kernel, rfl⟩
theorem dX9_goDown_30 : DI cX9_goDown 30 (.return_) 1 31 := ⟨by decide +kernel, rfl⟩
theorem dX9_hearWaiting_0 : DI cX9_hearWaiting 0 (.iconst 0) 1 1 := ⟨by decide +kernel, rfl⟩
theorem dX9_hearWaiting_1 : DI cX9_hearWaiting 1 (.istore_n 2) 1 2 := ⟨by decide +kernel, rfl⟩
theorem dX9_hearWaiting_2 : DI cX9_hearWaiting 2 (.iconst 0) 1 3 := ⟨by decide +kernel, rfl⟩
theorem dX9_hearWaiting_3 : DI cX9_hearWaiting 3 (.istore_n 3) 1 4 := ⟨by decide +kernel, rfl⟩
theorem dX9_hearWaiting_4 : DI cX9_hearWaiting 4 (.iload_n 3) 1 5 := ⟨by decide +kernel, rfl⟩
theorem dX9_hearWaiting_5 : DI cX9_hearWaiting 5 (.aload_n 0) 1 6 := ⟨by decide +kernel, rfl⟩
theorem dX9_hearWaiting_6 : DI cX9_hearWaiting 6 (.getfield 25) 3 9 := ⟨by decide +kernel, rfl⟩
theorem dX9_hearWaiting_9 : DI cX9_hearWaiting 9 (.invokevirtual 63) 3 12 := ⟨by decide +kernel, rfl⟩
theorem dX9_hearWaiting_12 : DB cX9_hearWaiting 12 (.if_icmp .ge 47) (47) 3 15 59 := ⟨by decide +kernel, rfl, by decide⟩
theorem dX9_hearWaiting_15 : DI cX9_hearWaiting 15 (.aload_n 0) 1 16 := ⟨by decide +kernel, rfl⟩
theorem dX9_hearWaiting_16 : DI cX9_hearWaiting 16 (.getfield 25) 3 19 := ⟨by decide +kernel, rfl⟩
theorem dX9_hearWaiting_19 : DI cX9_hearWaiting 19 (.iload_n 3) 1 20 := ⟨by decide +kernel, rfl⟩
theorem dX9_hearWaiting_20 : DI cX9_hearWaiting 20 (.invokevirtual 283) 3 23 := ⟨by decide +kernel, rfl⟩
theorem dX9_hearWaiting_23 : DI cX9_hearWaiting 23 (.checkcast 161) 3 26 := ⟨by decide +kernel, rfl⟩
theorem dX9_hearWaiting_26 : DI cX9_hearWaiting 26 (.astore 4) 2 28 := ⟨by decide +kernel, rfl⟩
theorem dX9_hearWaiting_28 : DI cX9_hearWaiting 28 (.aload 4) 2 30 := ⟨by decide +kernel, rfl⟩
theorem dX9_hearWaiting_30 : DI cX9_hearWaiting 30 (.getfield 186) 3 33 := ⟨by decide +kernel, rfl⟩
theorem dX9_hearWaiting_33 : DI cX9_hearWaiting 33 (.aload_n 1) 1 34 := ⟨by decide +kernel, rfl⟩
theorem dX9_hearWaiting_34 : DB cX9_hearWaiting 34 (.if_acmp .ne 19) (19) 3 37 53 := ⟨by decide +kernel, rfl, by decide⟩
theorem dX9_hearWaiting_37 : DI cX9_hearWaiting 37 (.iload_n 2) 1 38 := ⟨by decide +kernel, rfl⟩
theorem dX9_hearWaiting_38 : DI cX9_hearWaiting 38 (.aload 4) 2 40 := ⟨by decide +kernel, rfl⟩
theorem dX9_hearWaiting_40 : DI cX9_hearWaiting 40 (.getfield 200) 3 43 := ⟨by decide +kernel, rfl⟩
theorem dX9_hearWaiting_43 : DI cX9_hearWaiting 43 (.invokevirtual 310) 3 46 := ⟨by decide +kernel, rfl⟩
theorem dX9_hearWaiting_46 : DI cX9_hearWaiting 46 (.iadd) 1 47 := ⟨by decide +kernel, rfl⟩
theorem dX9_hearWaiting_47 : DI cX9_hearWaiting 47 (.istore_n 2) 1 48 := ⟨by decide +kernel, rfl⟩
theorem dX9_hearWaiting_48 : DI cX9_hearWaiting 48 (.aload 4) 2 50 := ⟨by decide +kernel, rfl⟩
theorem dX9_hearWaiting_50 : DI cX9_hearWaiting 50 (.invokestatic 197) 3 53 := ⟨by decide +kernel, rfl⟩
theorem dX9_hearWaiting_53 : DI cX9_hearWaiting 53 (.iinc 3 1) 3 56 := ⟨by decide +kernel, rfl⟩
theorem dX9_hearWaiting_56 : DB cX9_hearWaiting 56 (.goto (-52)) (-52) 3 59 4 := ⟨by decide +kernel, rfl, by decide⟩
theorem dX9_hearWaiting_59 : DI cX9_hearWaiting 59 (.iload_n 2) 1 60 := ⟨by decide +kernel, rfl⟩
theorem dX9_hearWaiting_60 : DI cX9_hearWaiting 60 (.ireturn) 1 61 := ⟨by decide +kernel, rfl⟩
theorem dX9_isBookedWithin_0 : DI cX9_isBookedWithin 0 (.iconst 0) 1 1 := ⟨by decide +kernel, rfl⟩
theorem dX9_isBookedWithin_1 : DI cX9_isBookedWithin 1 (.istore_n 3) 1 2 := ⟨by decide +kernel, rfl⟩
theorem dX9_isBookedWithin_2 : DI cX9_isBookedWithin 2 (.iload_n 3) 1 3 := ⟨by decide +kernel, rfl⟩
theorem dX9_isBookedWithin_3 : DI cX9_isBookedWithin 3 (.aload_n 0) 1 4 := ⟨by decide +kernel, rfl⟩
theorem dX9_isBookedWithin_4 : DI cX9_isBookedWithin 4 (.getfield 145) 3 7 := ⟨by decide +kernel, rfl⟩
theorem dX9_isBookedWithin_7 : DI cX9_isBookedWithin 7 (.invokevirtual 63) 3 10 := ⟨by decide +kernel, rfl⟩
theorem dX9_isBookedWithin_10 : DB cX9_isBookedWithin 10 (.if_icmp .ge 42) (42) 3 13 52 := ⟨by decide +kernel, rfl, by decide⟩
theorem dX9_isBookedWithin_13 : DI cX9_isBookedWithin 13 (.aload_n 0) 1 14 := ⟨by decide +kernel, rfl⟩
theorem dX9_isBookedWithin_14 : DI cX9_isBookedWithin 14 (.getfield 145) 3 17 := ⟨by decide +kernel, rfl⟩
theorem dX9_isBookedWithin_17 : DI cX9_isBookedWithin 17 (.iload_n 3) 1 18 := ⟨by decide +kernel, rfl⟩
theorem dX9_isBookedWithin_18 : DI cX9_isBookedWithin 18 (.invokevirtual 283) 3 21 := ⟨by decide +kernel, rfl⟩
theorem dX9_isBookedWithin_21 : DI cX9_isBookedWithin 21 (.checkcast 148) 3 24 := ⟨by decide +kernel, rfl⟩
theorem dX9_isBookedWithin_24 : DI cX9_isBookedWithin 24 (.astore 4) 2 26 := ⟨by decide +kernel, rfl⟩
theorem dX9_isBookedWithin_26 : DI cX9_isBookedWithin 26 (.iload_n 1) 1 27 := ⟨by decide +kernel, rfl⟩
theorem dX9_isBookedWithin_27 : DI cX9_isBookedWithin 27 (.aload 4) 2 29 := ⟨by decide +kernel, rfl⟩
theorem dX9_isBookedWithin_29 : DI cX9_isBookedWithin 29 (.getfield 313) 3 32 := ⟨by decide +kernel, rfl⟩
theorem dX9_isBookedWithin_32 : DB cX9_isBookedWithin 32 (.if_icmp .ge 14) (14) 3 35 46 := ⟨by decide +kernel, rfl, by decide⟩
theorem dX9_isBookedWithin_35 : DI cX9_isBookedWithin 35 (.aload 4) 2 37 := ⟨by decide +kernel, rfl⟩
theorem dX9_isBookedWithin_37 : DI cX9_isBookedWithin 37 (.getfield 316) 3 40 := ⟨by decide +kernel, rfl⟩
theorem dX9_isBookedWithin_40 : DI cX9_isBookedWithin 40 (.iload_n 2) 1 41 := ⟨by decide +kernel, rfl⟩
theorem dX9_isBookedWithin_41 : DB cX9_isBookedWithin 41 (.if_icmp .ge 5) (5) 3 44 46 := ⟨by decide +kernel, rfl, by decide⟩
theorem dX9_isBookedWithin_44 : DI cX9_isBookedWithin 44 (.iconst 1) 1 45 := ⟨by decide +kernel, rfl⟩
theorem dX9_isBookedWithin_45 : DI cX9_isBookedWithin 45 (.ireturn) 1 46 := ⟨by decide +kernel, rfl⟩
theorem dX9_isBookedWithin_46 : DI cX9_isBookedWithin 46 (.iinc 3 1) 3 49 := ⟨by decide +kernel, rfl⟩
theorem dX9_isBookedWithin_49 : DB cX9_isBookedWithin 49 (.goto (-47)) (-47) 3 52 2 := ⟨by decide +kernel, rfl, by decide⟩
theorem dX9_isBookedWithin_52 : DI cX9_isBookedWithin 52 (.iconst 0) 1 53 := ⟨by decide +kernel, rfl⟩
theorem dX9_isBookedWithin_53 : DI cX9_isBookedWithin 53 (.ireturn) 1 54 := ⟨by decide +kernel, rfl⟩
theorem dX9_isBookedByAnother_0 : DI cX9_isBookedByAnother 0 (.iconst 0) 1 1 := ⟨by decide +kernel, rfl⟩
theorem dX9_isBookedByAnother_1 : DI cX9_isBookedByAnother 1 (.istore_n 3) 1 2 := ⟨by decide +kernel, rfl⟩
theorem dX9_isBookedByAnother_2 : DI cX9_isBookedByAnother 2 (.iload_n 3) 1 3 := ⟨by decide +kernel, rfl⟩
theorem dX9_isBookedByAnother_3 : DI cX9_isBookedByAnother 3 (.aload_n 1) 1 4 := ⟨by decide +kernel, rfl⟩
theorem dX9_isBookedByAnother_4 : DI cX9_isBookedByAnother 4 (.getfield 145) 3 7 := ⟨by decide +kernel, rfl⟩
theorem dX9_isBookedByAnother_7 : DI cX9_isBookedByAnother 7 (.invokevirtual 63) 3 10 := ⟨by decide +kernel, rfl⟩
theorem dX9_isBookedByAnother_10 : DB cX9_isBookedByAnother 10 (.if_icmp .ge 45) (45) 3 13 55 := ⟨by decide +kernel, rfl, by decide⟩
theorem dX9_isBookedByAnother_13 : DI cX9_isBookedByAnother 13 (.aload_n 1) 1 14 := ⟨by decide +kernel, rfl⟩
theorem dX9_isBookedByAnother_14 : DI cX9_isBookedByAnother 14 (.getfield 145) 3 17 := ⟨by decide +kernel, rfl⟩
theorem dX9_isBookedByAnother_17 : DI cX9_isBookedByAnother 17 (.iload_n 3) 1 18 := ⟨by decide +kernel, rfl⟩
theorem dX9_isBookedByAnother_18 : DI cX9_isBookedByAnother 18 (.invokevirtual 283) 3 21 := ⟨by decide +kernel, rfl⟩
theorem dX9_isBookedByAnother_21 : DI cX9_isBookedByAnother 21 (.checkcast 148) 3 24 := ⟨by decide +kernel, rfl⟩
theorem dX9_isBookedByAnother_24 : DI cX9_isBookedByAnother 24 (.astore 4) 2 26 := ⟨by decide +kernel, rfl⟩
theorem dX9_isBookedByAnother_26 : DI cX9_isBookedByAnother 26 (.aload 4) 2 28 := ⟨by decide +kernel, rfl⟩
theorem dX9_isBookedByAnother_28 : DI cX9_isBookedByAnother 28 (.getfield 319) 3 31 := ⟨by decide +kernel, rfl⟩
theorem dX9_isBookedByAnother_31 : DI cX9_isBookedByAnother 31 (.aload_n 2) 1 32 := ⟨by decide +kernel, rfl⟩
theorem dX9_isBookedByAnother_32 : DB cX9_isBookedByAnother 32 (.if_acmp .eq 17) (17) 3 35 49 := ⟨by decide +kernel, rfl, by decide⟩
theorem dX9_isBookedByAnother_35 : DI cX9_isBookedByAnother 35 (.aload 4) 2 37 := ⟨by decide +kernel, rfl⟩
theorem dX9_isBookedByAnother_37 : DI cX9_isBookedByAnother 37 (.aload_n 0) 1 38 := ⟨by decide +kernel, rfl⟩
theorem dX9_isBookedByAnother_38 : DI cX9_isBookedByAnother 38 (.getfield 31) 3 41 := ⟨by decide +kernel, rfl⟩
theorem dX9_isBookedByAnother_41 : DI cX9_isBookedByAnother 41 (.invokevirtual 323) 3 44 := ⟨by decide +kernel, rfl⟩
theorem dX9_isBookedByAnother_44 : DB cX9_isBookedByAnother 44 (.ifCond .eq 5) (5) 3 47 49 := ⟨by decide +kernel, rfl, by decide⟩
theorem dX9_isBookedByAnother_47 : DI cX9_isBookedByAnother 47 (.iconst 1) 1 48 := ⟨by decide +kernel, rfl⟩
theorem dX9_isBookedByAnother_48 : DI cX9_isBookedByAnother 48 (.ireturn) 1 49 := ⟨by decide +kernel, rfl⟩
theorem dX9_isBookedByAnother_49 : DI cX9_isBookedByAnother 49 (.iinc 3 1) 3 52 := ⟨by decide +kernel, rfl⟩
theorem dX9_isBookedByAnother_52 : DB cX9_isBookedByAnother 52 (.goto (-50)) (-50) 3 55 2 := ⟨by decide +kernel, rfl, by decide⟩
theorem dX9_isBookedByAnother_55 : DI cX9_isBookedByAnother 55 (.iconst 0) 1 56 := ⟨by decide +kernel, rfl⟩
theorem dX9_isBookedByAnother_56 : DI cX9_isBookedByAnother 56 (.ireturn) 1 57 := ⟨by decide +kernel, rfl⟩
theorem dX9_useBooking_0 : DI cX9_useBooking 0 (.aload_n 1) 1 1 := ⟨by decide +kernel, rfl⟩
theorem dX9_useBooking_1 : DI cX9_useBooking 1 (.getfield 145) 3 4 := ⟨by decide +kernel, rfl⟩
theorem dX9_useBooking_4 : DI cX9_useBooking 4 (.invokevirtual 63) 3 7 := ⟨by decide +kernel, rfl⟩
theorem dX9_useBooking_7 : DI cX9_useBooking 7 (.iconst 1) 1 8 := ⟨by decide +kernel, rfl⟩
theorem dX9_useBooking_8 : DI cX9_useBooking 8 (.isub) 1 9 := ⟨by decide +kernel, rfl⟩
theorem dX9_useBooking_9 : DI cX9_useBooking 9 (.istore_n 3) 1 10 := ⟨by decide +kernel, rfl⟩
theorem dX9_useBooking_10 : DI cX9_useBooking 10 (.iload_n 3) 1 11 := ⟨by decide +kernel, rfl⟩
theorem dX9_useBooking_11 : DB cX9_useBooking 11 (.ifCond .lt 52) (52) 3 14 63 := ⟨by decide +kernel, rfl, by decide⟩
theorem dX9_useBooking_14 : DI cX9_useBooking 14 (.aload_n 1) 1 15 := ⟨by decide +kernel, rfl⟩
theorem dX9_useBooking_15 : DI cX9_useBooking 15 (.getfield 145) 3 18 := ⟨by decide +kernel, rfl⟩
theorem dX9_useBooking_18 : DI cX9_useBooking 18 (.iload_n 3) 1 19 := ⟨by decide +kernel, rfl⟩
theorem dX9_useBooking_19 : DI cX9_useBooking 19 (.invokevirtual 283) 3 22 := ⟨by decide +kernel, rfl⟩
theorem dX9_useBooking_22 : DI cX9_useBooking 22 (.checkcast 148) 3 25 := ⟨by decide +kernel, rfl⟩
theorem dX9_useBooking_25 : DI cX9_useBooking 25 (.astore 4) 2 27 := ⟨by decide +kernel, rfl⟩
theorem dX9_useBooking_27 : DI cX9_useBooking 27 (.aload 4) 2 29 := ⟨by decide +kernel, rfl⟩
theorem dX9_useBooking_29 : DI cX9_useBooking 29 (.getfield 319) 3 32 := ⟨by decide +kernel, rfl⟩
theorem dX9_useBooking_32 : DI cX9_useBooking 32 (.aload_n 2) 1 33 := ⟨by decide +kernel, rfl⟩
theorem dX9_useBooking_33 : DB cX9_useBooking 33 (.if_acmp .ne 24) (24) 3 36 57 := ⟨by decide +kernel, rfl, by decide⟩
theorem dX9_useBooking_36 : DI cX9_useBooking 36 (.aload 4) 2 38 := ⟨by decide +kernel, rfl⟩
theorem dX9_useBooking_38 : DI cX9_useBooking 38 (.aload_n 0) 1 39 := ⟨by decide +kernel, rfl⟩
theorem dX9_useBooking_39 : DI cX9_useBooking 39 (.getfield 31) 3 42 := ⟨by decide +kernel, rfl⟩
theorem dX9_useBooking_42 : DI cX9_useBooking 42 (.invokevirtual 323) 3 45 := ⟨by decide +kernel, rfl⟩
theorem dX9_useBooking_45 : DB cX9_useBooking 45 (.ifCond .eq 12) (12) 3 48 57 := ⟨by decide +kernel, rfl, by decide⟩
theorem dX9_useBooking_48 : DI cX9_useBooking 48 (.aload_n 1) 1 49 := ⟨by decide +kernel, rfl⟩
theorem dX9_useBooking_49 : DI cX9_useBooking 49 (.getfield 145) 3 52 := ⟨by decide +kernel, rfl⟩
theorem dX9_useBooking_52 : DI cX9_useBooking 52 (.iload_n 3) 1 53 := ⟨by decide +kernel, rfl⟩
theorem dX9_useBooking_53 : DI cX9_useBooking 53 (.invokevirtual 327) 3 56 := ⟨by decide +kernel, rfl⟩
theorem dX9_useBooking_56 : DI cX9_useBooking 56 (.pop) 1 57 := ⟨by decide +kernel, rfl⟩
theorem dX9_useBooking_57 : DI cX9_useBooking 57 (.iinc 3 (-1)) 3 60 := ⟨by decide +kernel, rfl⟩
theorem dX9_useBooking_60 : DB cX9_useBooking 60 (.goto (-50)) (-50) 3 63 10 := ⟨by decide +kernel, rfl, by decide⟩
theorem dX9_useBooking_63 : DI cX9_useBooking 63 (.return_) 1 64 := ⟨by decide +kernel, rfl⟩
theorem dX9_dropLateBookings_0 : DI cX9_dropLateBookings 0 (.iconst 0) 1 1 := ⟨by decide +kernel, rfl⟩
theorem dX9_dropLateBookings_1 : DI cX9_dropLateBookings 1 (.istore_n 1) 1 2 := ⟨by decide +kernel, rfl⟩
theorem dX9_dropLateBookings_2 : DI cX9_dropLateBookings 2 (.iload_n 1) 1 3 := ⟨by decide +kernel, rfl⟩
theorem dX9_dropLateBookings_3 : DI cX9_dropLateBookings 3 (.aload_n 0) 1 4 := ⟨by decide +kernel, rfl⟩
theorem dX9_dropLateBookings_4 : DI cX9_dropLateBookings 4 (.getfield 16) 3 7 := ⟨by decide +kernel, rfl⟩
theorem dX9_dropLateBookings_7 : DI cX9_dropLateBookings 7 (.invokevirtual 63) 3 10 := ⟨by decide +kernel, rfl⟩
theorem dX9_dropLateBookings_10 : DB cX9_dropLateBookings 10 (.if_icmp .ge 65) (65) 3 13 75 := ⟨by decide +kernel, rfl, by decide⟩
theorem dX9_dropLateBookings_13 : DI cX9_dropLateBookings 13 (.aload_n 0) 1 14 := ⟨by decide +kernel, rfl⟩
theorem dX9_dropLateBookings_14 : DI cX9_dropLateBookings 14 (.getfield 16) 3 17 := ⟨by decide +kernel, rfl⟩
theorem dX9_dropLateBookings_17 : DI cX9_dropLateBookings 17 (.iload_n 1) 1 18 := ⟨by decide +kernel, rfl⟩
theorem dX9_dropLateBookings_18 : DI cX9_dropLateBookings 18 (.invokevirtual 283) 3 21 := ⟨by decide +kernel, rfl⟩
theorem dX9_dropLateBookings_21 : DI cX9_dropLateBookings 21 (.checkcast 71) 3 24 := ⟨by decide +kernel, rfl⟩
theorem dX9_dropLateBookings_24 : DI cX9_dropLateBookings 24 (.getfield 145) 3 27 := ⟨by decide +kernel, rfl⟩
theorem dX9_dropLateBookings_27 : DI cX9_dropLateBookings 27 (.astore_n 2) 1 28 := ⟨by decide +kernel, rfl⟩
theorem dX9_dropLateBookings_28 : DI cX9_dropLateBookings 28 (.aload_n 2) 1 29 := ⟨by decide +kernel, rfl⟩
theorem dX9_dropLateBookings_29 : DI cX9_dropLateBookings 29 (.invokevirtual 63) 3 32 := ⟨by decide +kernel, rfl⟩
theorem dX9_dropLateBookings_32 : DI cX9_dropLateBookings 32 (.iconst 1) 1 33 := ⟨by decide +kernel, rfl⟩
theorem dX9_dropLateBookings_33 : DI cX9_dropLateBookings 33 (.isub) 1 34 := ⟨by decide +kernel, rfl⟩
theorem dX9_dropLateBookings_34 : DI cX9_dropLateBookings 34 (.istore_n 3) 1 35 := ⟨by decide +kernel, rfl⟩
theorem dX9_dropLateBookings_35 : DI cX9_dropLateBookings 35 (.iload_n 3) 1 36 := ⟨by decide +kernel, rfl⟩
theorem dX9_dropLateBookings_36 : DB cX9_dropLateBookings 36 (.ifCond .lt 33) (33) 3 39 69 := ⟨by decide +kernel, rfl, by decide⟩
theorem dX9_dropLateBookings_39 : DI cX9_dropLateBookings 39 (.aload_n 2) 1 40 := ⟨by decide +kernel, rfl⟩
theorem dX9_dropLateBookings_40 : DI cX9_dropLateBookings 40 (.iload_n 3) 1 41 := ⟨by decide +kernel, rfl⟩
theorem dX9_dropLateBookings_41 : DI cX9_dropLateBookings 41 (.invokevirtual 283) 3 44 := ⟨by decide +kernel, rfl⟩
theorem dX9_dropLateBookings_44 : DI cX9_dropLateBookings 44 (.checkcast 148) 3 47 := ⟨by decide +kernel, rfl⟩
theorem dX9_dropLateBookings_47 : DI cX9_dropLateBookings 47 (.aload_n 0) 1 48 := ⟨by decide +kernel, rfl⟩
theorem dX9_dropLateBookings_48 : DI cX9_dropLateBookings 48 (.getfield 31) 3 51 := ⟨by decide +kernel, rfl⟩
theorem dX9_dropLateBookings_51 : DI cX9_dropLateBookings 51 (.invokevirtual 330) 3 54 := ⟨by decide +kernel, rfl⟩
theorem dX9_dropLateBookings_54 : DB cX9_dropLateBookings 54 (.ifCond .eq 9) (9) 3 57 63 := ⟨by decide +kernel, rfl, by decide⟩
theorem dX9_dropLateBookings_57 : DI cX9_dropLateBookings 57 (.aload_n 2) 1 58 := ⟨by decide +kernel, rfl⟩
theorem dX9_dropLateBookings_58 : DI cX9_dropLateBookings 58 (.iload_n 3) 1 59 := ⟨by decide +kernel, rfl⟩
theorem dX9_dropLateBookings_59 : DI cX9_dropLateBookings 59 (.invokevirtual 327) 3 62 := ⟨by decide +kernel, rfl⟩
theorem dX9_dropLateBookings_62 : DI cX9_dropLateBookings 62 (.pop) 1 63 := ⟨by decide +kernel, rfl⟩
theorem dX9_dropLateBookings_63 : DI cX9_dropLateBookings 63 (.iinc 3 (-1)) 3 66 := ⟨by decide +kernel, rfl⟩
theorem dX9_dropLateBookings_66 : DB cX9_dropLateBookings 66 (.goto (-31)) (-31) 3 69 35 := ⟨by decide +kernel, rfl, by decide⟩
theorem dX9_dropLateBookings_69 : DI cX9_dropLateBookings 69 (.iinc 1 1) 3 72 := ⟨by decide +kernel, rfl⟩
theorem dX9_dropLateBookings_72 : DB cX9_dropLateBookings 72 (.goto (-70)) (-70) 3 75 2 := ⟨by decide +kernel, rfl, by decide⟩
theorem dX9_dropLateBookings_75 : DI cX9_dropLateBookings 75 (.return_) 1 76 := ⟨by decide +kernel, rfl⟩
theorem dX9_refusalOf_0 : DI cX9_refusalOf 0 (.aload_n 1) 1 1 := ⟨by decide +kernel, rfl⟩
theorem dX9_refusalOf_1 : DI cX9_refusalOf 1 (.getfield 113) 3 4 := ⟨by decide +kernel, rfl⟩
theorem dX9_refusalOf_4 : DB cX9_refusalOf 4 (.ifCond .eq 5) (5) 3 7 9 := ⟨by decide +kernel, rfl, by decide⟩
theorem dX9_refusalOf_7 : DI cX9_refusalOf 7 (.iconst (-1)) 1 8 := ⟨by decide +kernel, rfl⟩
theorem dX9_refusalOf_8 : DI cX9_refusalOf 8 (.ireturn) 1 9 := ⟨by decide +kernel, rfl⟩
theorem dX9_refusalOf_9 : DI cX9_refusalOf 9 (.aload_n 1) 1 10 := ⟨by decide +kernel, rfl⟩
theorem dX9_refusalOf_10 : DI cX9_refusalOf 10 (.getfield 190) 3 13 := ⟨by decide +kernel, rfl⟩
theorem dX9_refusalOf_13 : DB cX9_refusalOf 13 (.ifnull 6) (6) 3 16 19 := ⟨by decide +kernel, rfl, by decide⟩
theorem dX9_refusalOf_16 : DI cX9_refusalOf 16 (.bipush (-2)) 2 18 := ⟨by decide +kernel, rfl⟩
theorem dX9_refusalOf_18 : DI cX9_refusalOf 18 (.ireturn) 1 19 := ⟨by decide +kernel, rfl⟩
theorem dX9_refusalOf_19 : DI cX9_refusalOf 19 (.aload_n 3) 1 20 := ⟨by decide +kernel, rfl⟩
theorem dX9_refusalOf_20 : DI cX9_refusalOf 20 (.getfield 95) 3 23 := ⟨by decide +kernel, rfl⟩
theorem dX9_refusalOf_23 : DB cX9_refusalOf 23 (.ifCond .eq 17) (17) 3 26 40 := ⟨by decide +kernel, rfl, by decide⟩
theorem dX9_refusalOf_26 : DI cX9_refusalOf 26 (.aload_n 1) 1 27 := ⟨by decide +kernel, rfl⟩
theorem dX9_refusalOf_27 : DI cX9_refusalOf 27 (.getfield 116) 3 30 := ⟨by decide +kernel, rfl⟩
theorem dX9_refusalOf_30 : DB cX9_refusalOf 30 (.ifCond .ne 13) (13) 3 33 43 := ⟨by decide +kernel, rfl, by decide⟩
theorem dX9_refusalOf_33 : DI cX9_refusalOf 33 (.aload_n 3) 1 34 := ⟨by decide +kernel, rfl⟩
theorem dX9_refusalOf_34 : DI cX9_refusalOf 34 (.getfield 333) 3 37 := ⟨by decide +kernel, rfl⟩
theorem dX9_refusalOf_37 : DB cX9_refusalOf 37 (.ifCond .ne 6) (6) 3 40 43 := ⟨by decide +kernel, rfl, by decide⟩
theorem dX9_refusalOf_40 : DI cX9_refusalOf 40 (.bipush (-3)) 2 42 := ⟨by decide +kernel, rfl⟩
theorem dX9_refusalOf_42 : DI cX9_refusalOf 42 (.ireturn) 1 43 := ⟨by decide +kernel, rfl⟩
theorem dX9_refusalOf_43 : DI cX9_refusalOf 43 (.aload_n 0) 1 44 := ⟨by decide +kernel, rfl⟩
theorem dX9_refusalOf_44 : DI cX9_refusalOf 44 (.aload_n 1) 1 45 := ⟨by decide +kernel, rfl⟩
theorem dX9_refusalOf_45 : DI cX9_refusalOf 45 (.aload_n 3) 1 46 := ⟨by decide +kernel, rfl⟩
theorem dX9_refusalOf_46 : DI cX9_refusalOf 46 (.invokevirtual 336) 3 49 := ⟨by decide +kernel, rfl⟩
theorem dX9_refusalOf_49 : DB cX9_refusalOf 49 (.ifCond .eq 6) (6) 3 52 55 := ⟨by decide +kernel, rfl, by decide⟩
theorem dX9_refusalOf_52 : DI cX9_refusalOf 52 (.bipush (-4)) 2 54 := ⟨by decide +kernel, rfl⟩
theorem dX9_refusalOf_54 : DI cX9_refusalOf 54 (.ireturn) 1 55 := ⟨by decide +kernel, rfl⟩
theorem dX9_refusalOf_55 : DI cX9_refusalOf 55 (.aload_n 2) 1 56 := ⟨by decide +kernel, rfl⟩
theorem dX9_refusalOf_56 : DI cX9_refusalOf 56 (.getfield 183) 3 59 := ⟨by decide +kernel, rfl⟩
theorem dX9_refusalOf_59 : DB cX9_refusalOf 59 (.ifCond .eq 8) (8) 3 62 67 := ⟨by decide +kernel, rfl, by decide⟩
theorem dX9_refusalOf_62 : DI cX9_refusalOf 62 (.bipush (-5)) 2 64 := ⟨by decide +kernel, rfl⟩
theorem dX9_refusalOf_64 : DB cX9_refusalOf 64 (.goto 4) (4) 3 67 68 := ⟨by decide +kernel, rfl, by decide⟩
theorem dX9_refusalOf_67 : DI cX9_refusalOf 67 (.iconst 0) 1 68 := ⟨by decide +kernel, rfl⟩
theorem dX9_refusalOf_68 : DI cX9_refusalOf 68 (.ireturn) 1 69 := ⟨by decide +kernel, rfl⟩
theorem dX9_begin_0 : DI cX9_begin 0 (.aload_n 1) 1 1 := ⟨by decide +kernel, rfl⟩
theorem dX9_begin_1 : DI cX9_begin 1 (.getfield 186) 3 4 := ⟨by decide +kernel, rfl⟩
theorem dX9_begin_4 : DI cX9_begin 4 (.aload_n 1) 1 5 := ⟨by decide +kernel, rfl⟩
theorem dX9_begin_5 : DI cX9_begin 5 (.putfield 190) 3 8 := ⟨by decide +kernel, rfl⟩
theorem dX9_begin_8 : DI cX9_begin 8 (.aload_n 1) 1 9 := ⟨by decide +kernel, rfl⟩
theorem dX9_begin_9 : DI cX9_begin 9 (.getfield 179) 3 12 := ⟨by decide +kernel, rfl⟩
theorem dX9_begin_12 : DI cX9_begin 12 (.iconst 1) 1 13 := ⟨by decide +kernel, rfl⟩
theorem dX9_begin_13 : DI cX9_begin 13 (.putfield 183) 3 16 := ⟨by decide +kernel, rfl⟩
theorem dX9_begin_16 : DI cX9_begin 16 (.aload_n 0) 1 17 := ⟨by decide +kernel, rfl⟩
theorem dX9_begin_17 : DI cX9_begin 17 (.aload_n 1) 1 18 := ⟨by decide +kernel, rfl⟩
theorem dX9_begin_18 : DI cX9_begin 18 (.getfield 186) 3 21 := ⟨by decide +kernel, rfl⟩
theorem dX9_begin_21 : DI cX9_begin 21 (.aload_n 1) 1 22 := ⟨by decide +kernel, rfl⟩
theorem dX9_begin_22 : DI cX9_begin 22 (.getfield 340) 3 25 := ⟨by decide +kernel, rfl⟩
theorem dX9_begin_25 : DI cX9_begin 25 (.invokevirtual 343) 3 28 := ⟨by decide +kernel, rfl⟩
theorem dX9_begin_28 : DI cX9_begin 28 (.aload_n 0) 1 29 := ⟨by decide +kernel, rfl⟩
theorem dX9_begin_29 : DI cX9_begin 29 (.getfield 25) 3 32 := ⟨by decide +kernel, rfl⟩
theorem dX9_begin_32 : DI cX9_begin 32 (.aload_n 1) 1 33 := ⟨by decide +kernel, rfl⟩
theorem dX9_begin_33 : DI cX9_begin 33 (.invokevirtual 50) 3 36 := ⟨by decide +kernel, rfl⟩
theorem dX9_begin_36 : DI cX9_begin 36 (.pop) 1 37 := ⟨by decide +kernel, rfl⟩
theorem dX9_begin_37 : DI cX9_begin 37 (.aload_n 0) 1 38 := ⟨by decide +kernel, rfl⟩
theorem dX9_begin_38 : DI cX9_begin 38 (.getfield 28) 3 41 := ⟨by decide +kernel, rfl⟩
theorem dX9_begin_41 : DI cX9_begin 41 (.aload_n 1) 1 42 := ⟨by decide +kernel, rfl⟩
theorem dX9_begin_42 : DI cX9_begin 42 (.invokevirtual 50) 3 45 := ⟨by decide +kernel, rfl⟩
theorem dX9_begin_45 : DI cX9_begin 45 (.pop) 1 46 := ⟨by decide +kernel, rfl⟩
theorem dX9_begin_46 : DI cX9_begin 46 (.return_) 1 47 := ⟨by decide +kernel, rfl⟩
theorem dX9_leaveRunning_0 : DI cX9_leaveRunning 0 (.aload_n 0) 1 1 := ⟨by decide +kernel, rfl⟩
theorem dX9_leaveRunning_1 : DI cX9_leaveRunning 1 (.getfield 28) 3 4 := ⟨by decide +kernel, rfl⟩
theorem dX9_leaveRunning_4 : DI cX9_leaveRunning 4 (.invokevirtual 63) 3 7 := ⟨by decide +kernel, rfl⟩
theorem dX9_leaveRunning_7 : DI cX9_leaveRunning 7 (.iconst 1) 1 8 := ⟨by decide +kernel, rfl⟩
theorem dX9_leaveRunning_8 : DI cX9_leaveRunning 8 (.isub) 1 9 := ⟨by decide +kernel, rfl⟩
theorem dX9_leaveRunning_9 : DI cX9_leaveRunning 9 (.istore_n 2) 1 10 := ⟨by decide +kernel, rfl⟩
theorem dX9_leaveRunning_10 : DI cX9_leaveRunning 10 (.iload_n 2) 1 11 := ⟨by decide +kernel, rfl⟩
theorem dX9_leaveRunning_11 : DB cX9_leaveRunning 11 (.ifCond .lt 30) (30) 3 14 41 := ⟨by decide +kernel, rfl, by decide⟩
theorem dX9_leaveRunning_14 : DI cX9_leaveRunning 14 (.aload_n 0) 1 15 := ⟨by decide +kernel, rfl⟩
theorem dX9_leaveRunning_15 : DI cX9_leaveRunning 15 (.getfield 28) 3 18 := ⟨by decide +kernel, rfl⟩
theorem dX9_leaveRunning_18 : DI cX9_leaveRunning 18 (.iload_n 2) 1 19 := ⟨by decide +kernel, rfl⟩
theorem dX9_leaveRunning_19 : DI cX9_leaveRunning 19 (.invokevirtual 283) 3 22 := ⟨by decide +kernel, rfl⟩
theorem dX9_leaveRunning_22 : DI cX9_leaveRunning 22 (.aload_n 1) 1 23 := ⟨by decide +kernel, rfl⟩
theorem dX9_leaveRunning_23 : DB cX9_leaveRunning 23 (.if_acmp .ne 12) (12) 3 26 35 := ⟨by decide +kernel, rfl, by decide⟩
theorem dX9_leaveRunning_26 : DI cX9_leaveRunning 26 (.aload_n 0) 1 27 := ⟨by decide +kernel, rfl⟩
theorem dX9_leaveRunning_27 : DI cX9_leaveRunning 27 (.getfield 28) 3 30 := ⟨by decide +kernel, rfl⟩
theorem dX9_leaveRunning_30 : DI cX9_leaveRunning 30 (.iload_n 2) 1 31 := ⟨by decide +kernel, rfl⟩
theorem dX9_leaveRunning_31 : DI cX9_leaveRunning 31 (.invokevirtual 327) 3 34 := ⟨by decide +kernel, rfl⟩
theorem dX9_leaveRunning_34 : DI cX9_leaveRunning 34 (.pop) 1 35 := ⟨by decide +kernel, rfl⟩
theorem dX9_leaveRunning_35 : DI cX9_leaveRunning 35 (.iinc 2 (-1)) 3 38 := ⟨by decide +kernel, rfl⟩
theorem dX9_leaveRunning_38 : DB cX9_leaveRunning 38 (.goto (-28)) (-28) 3 41 10 := ⟨by decide +kernel, rfl, by decide⟩
theorem dX9_leaveRunning_41 : DI cX9_leaveRunning 41 (.return_) 1 42 := ⟨by decide +kernel, rfl⟩
theorem dX9_serveFirst_0 : DI cX9_serveFirst 0 (.aload_n 0) 1 1 := ⟨by decide +kernel, rfl⟩
theorem dX9_serveFirst_1 : DI cX9_serveFirst 1 (.getfield 35) 3 4 := ⟨by decide +kernel, rfl⟩
theorem dX9_serveFirst_4 : DI cX9_serveFirst 4 (.aload_n 0) 1 5 := ⟨by decide +kernel, rfl⟩
theorem dX9_serveFirst_5 : DI cX9_serveFirst 5 (.getfield 38) 3 8 := ⟨by decide +kernel, rfl⟩
theorem dX9_serveFirst_8 : DI cX9_serveFirst 8 (.iadd) 1 9 := ⟨by decide +kernel, rfl⟩
theorem dX9_serveFirst_9 : DI cX9_serveFirst 9 (.istore_n 1) 1 10 := ⟨by decide +kernel, rfl⟩
theorem dX9_serveFirst_10 : DI cX9_serveFirst 10 (.iconst 0) 1 11 := ⟨by decide +kernel, rfl⟩
theorem dX9_serveFirst_11 : DI cX9_serveFirst 11 (.istore_n 2) 1 12 := ⟨by decide +kernel, rfl⟩
theorem dX9_serveFirst_12 : DI cX9_serveFirst 12 (.iload_n 2) 1 13 := ⟨by decide +kernel, rfl⟩
theorem dX9_serveFirst_13 : DI cX9_serveFirst 13 (.aload_n 0) 1 14 := ⟨by decide +kernel, rfl⟩
theorem dX9_serveFirst_14 : DI cX9_serveFirst 14 (.getfield 28) 3 17 := ⟨by decide +kernel, rfl⟩
theorem dX9_serveFirst_17 : DI cX9_serveFirst 17 (.invokevirtual 63) 3 20 := ⟨by decide +kernel, rfl⟩
theorem dX9_serveFirst_20 : DB cX9_serveFirst 20 (.if_icmp .ge 73) (73) 3 23 93 := ⟨by decide +kernel, rfl, by decide⟩
theorem dX9_serveFirst_23 : DI cX9_serveFirst 23 (.aload_n 0) 1 24 := ⟨by decide +kernel, rfl⟩
theorem dX9_serveFirst_24 : DI cX9_serveFirst 24 (.getfield 28) 3 27 := ⟨by decide +kernel, rfl⟩
theorem dX9_serveFirst_27 : DI cX9_serveFirst 27 (.iload_n 2) 1 28 := ⟨by decide +kernel, rfl⟩
theorem dX9_serveFirst_28 : DI cX9_serveFirst 28 (.invokevirtual 283) 3 31 := ⟨by decide +kernel, rfl⟩
theorem dX9_serveFirst_31 : DI cX9_serveFirst 31 (.checkcast 161) 3 34 := ⟨by decide +kernel, rfl⟩
theorem dX9_serveFirst_34 : DI cX9_serveFirst 34 (.astore_n 3) 1 35 := ⟨by decide +kernel, rfl⟩
theorem dX9_serveFirst_35 : DI cX9_serveFirst 35 (.aload_n 3) 1 36 := ⟨by decide +kernel, rfl⟩
theorem dX9_serveFirst_36 : DI cX9_serveFirst 36 (.aload_n 3) 1 37 := ⟨by decide +kernel, rfl⟩
theorem dX9_serveFirst_37 : DI cX9_serveFirst 37 (.aload_n 0) 1 38 := ⟨by decide +kernel, rfl⟩
theorem dX9_serveFirst_38 : DI cX9_serveFirst 38 (.getfield 41) 3 41 := ⟨by decide +kernel, rfl⟩
theorem dX9_serveFirst_41 : DI cX9_serveFirst 41 (.invokevirtual 347) 3 44 := ⟨by decide +kernel, rfl⟩
theorem dX9_serveFirst_44 : DI cX9_serveFirst 44 (.putfield 350) 3 47 := ⟨by decide +kernel, rfl⟩
theorem dX9_serveFirst_47 : DI cX9_serveFirst 47 (.aload_n 3) 1 48 := ⟨by decide +kernel, rfl⟩
theorem dX9_serveFirst_48 : DI cX9_serveFirst 48 (.aload_n 3) 1 49 := ⟨by decide +kernel, rfl⟩
theorem dX9_serveFirst_49 : DI cX9_serveFirst 49 (.getfield 186) 3 52 := ⟨by decide +kernel, rfl⟩
theorem dX9_serveFirst_52 : DI cX9_serveFirst 52 (.getfield 116) 3 55 := ⟨by decide +kernel, rfl⟩
theorem dX9_serveFirst_55 : DB cX9_serveFirst 55 (.ifCond .eq 7) (7) 3 58 62 := ⟨by decide +kernel, rfl, by decide⟩
theorem dX9_serveFirst_58 : DI cX9_serveFirst 58 (.iconst 0) 1 59 := ⟨by decide +kernel, rfl⟩
theorem dX9_serveFirst_59 : DB cX9_serveFirst 59 (.goto 18) (18) 3 62 77 := ⟨by decide +kernel, rfl, by decide⟩
theorem dX9_serveFirst_62 : DI cX9_serveFirst 62 (.aload_n 3) 1 63 := ⟨by decide +kernel, rfl⟩
theorem dX9_serveFirst_63 : DI cX9_serveFirst 63 (.getfield 350) 3 66 := ⟨by decide +kernel, rfl⟩
theorem dX9_serveFirst_66 : DI cX9_serveFirst 66 (.aload_n 3) 1 67 := ⟨by decide +kernel, rfl⟩
theorem dX9_serveFirst_67 : DI cX9_serveFirst 67 (.aload_n 0) 1 68 := ⟨by decide +kernel, rfl⟩
theorem dX9_serveFirst_68 : DI cX9_serveFirst 68 (.getfield 31) 3 71 := ⟨by decide +kernel, rfl⟩
theorem dX9_serveFirst_71 : DI cX9_serveFirst 71 (.invokevirtual 353) 3 74 := ⟨by decide +kernel, rfl⟩
theorem dX9_serveFirst_74 : DI cX9_serveFirst 74 (.invokestatic 356) 3 77 := ⟨by decide +kernel, rfl⟩
theorem dX9_serveFirst_77 : DI cX9_serveFirst 77 (.putfield 244) 3 80 := ⟨by decide +kernel, rfl⟩
theorem dX9_serveFirst_80 : DI cX9_serveFirst 80 (.iload_n 1) 1 81 := ⟨by decide +kernel, rfl⟩
theorem dX9_serveFirst_81 : DI cX9_serveFirst 81 (.aload_n 3) 1 82 := ⟨by decide +kernel, rfl⟩
theorem dX9_serveFirst_82 : DI cX9_serveFirst 82 (.getfield 244) 3 85 := ⟨by decide +kernel, rfl⟩
theorem dX9_serveFirst_85 : DI cX9_serveFirst 85 (.isub) 1 86 := ⟨by decide +kernel, rfl⟩
theorem dX9_serveFirst_86 : DI cX9_serveFirst 86 (.istore_n 1) 1 87 := ⟨by decide +kernel, rfl⟩
theorem dX9_serveFirst_87 : DI cX9_serveFirst 87 (.iinc 2 1) 3 90 := ⟨by decide +kernel, rfl⟩
theorem dX9_serveFirst_90 : DB cX9_serveFirst 90 (.goto (-78)) (-78) 3 93 12 := ⟨by decide +kernel, rfl, by decide⟩
theorem dX9_serveFirst_93 : DI cX9_serveFirst 93 (.aload_n 0) 1 94 := ⟨by decide +kernel, rfl⟩
theorem dX9_serveFirst_94 : DI cX9_serveFirst 94 (.iload_n 1) 1 95 := ⟨by decide +kernel, rfl⟩
theorem dX9_serveFirst_95 : DI cX9_serveFirst 95 (.iconst 1) 1 96 := ⟨by decide +kernel, rfl⟩
theorem dX9_serveFirst_96 : DI cX9_serveFirst 96 (.invokevirtual 361) 3 99 := ⟨by decide +kernel, rfl⟩
theorem dX9_serveFirst_99 : DI cX9_serveFirst 99 (.istore_n 1) 1 100 := ⟨by decide +kernel, rfl⟩
theorem dX9_serveFirst_100 : DI cX9_serveFirst 100 (.aload_n 0) 1 101 := ⟨by decide +kernel, rfl⟩
theorem dX9_serveFirst_101 : DI cX9_serveFirst 101 (.iload_n 1) 1 102 := ⟨by decide +kernel, rfl⟩
theorem dX9_serveFirst_102 : DI cX9_serveFirst 102 (.iconst 0) 1 103 := ⟨by decide +kernel, rfl⟩
theorem dX9_serveFirst_103 : DI cX9_serveFirst 103 (.invokevirtual 361) 3 106 := ⟨by decide +kernel, rfl⟩
theorem dX9_serveFirst_106 : DI cX9_serveFirst 106 (.ireturn) 1 107 := ⟨by decide +kernel, rfl⟩
theorem dX9_serveRanks_0 : DI cX9_serveRanks 0 (.iload_n 1) 1 1 := ⟨by decide +kernel, rfl⟩
theorem dX9_serveRanks_1 : DI cX9_serveRanks 1 (.istore_n 3) 1 2 := ⟨by decide +kernel, rfl⟩
theorem dX9_serveRanks_2 : DI cX9_serveRanks 2 (.iconst 3) 1 3 := ⟨by decide +kernel, rfl⟩
theorem dX9_serveRanks_3 : DI cX9_serveRanks 3 (.istore 4) 2 5 := ⟨by decide +kernel, rfl⟩
theorem dX9_serveRanks_5 : DI cX9_serveRanks 5 (.iload 4) 2 7 := ⟨by decide +kernel, rfl⟩
theorem dX9_serveRanks_7 : DB cX9_serveRanks 7 (.ifCond .lt 131) (131) 3 10 138 := ⟨by decide +kernel, rfl, by decide⟩
theorem dX9_serveRanks_10 : DI cX9_serveRanks 10 (.iconst 0) 1 11 := ⟨by decide +kernel, rfl⟩
theorem dX9_serveRanks_11 : DI cX9_serveRanks 11 (.istore 5) 2 13 := ⟨by decide +kernel, rfl⟩
theorem dX9_serveRanks_13 : DI cX9_serveRanks 13 (.iload 5) 2 15 := ⟨by decide +kernel, rfl⟩
theorem dX9_serveRanks_15 : DI cX9_serveRanks 15 (.aload_n 0) 1 16 := ⟨by decide +kernel, rfl⟩
theorem dX9_serveRanks_16 : DI cX9_serveRanks 16 (.getfield 28) 3 19 := ⟨by decide +kernel, rfl⟩
theorem dX9_serveRanks_19 : DI cX9_serveRanks 19 (.invokevirtual 63) 3 22 := ⟨by decide +kernel, rfl⟩
theorem dX9_serveRanks_22 : DB cX9_serveRanks 22 (.if_icmp .ge 110) (110) 3 25 132 := ⟨by decide +kernel, rfl, by decide⟩
theorem dX9_serveRanks_25 : DI cX9_serveRanks 25 (.aload_n 0) 1 26 := ⟨by decide +kernel, rfl⟩
theorem dX9_serveRanks_26 : DI cX9_serveRanks 26 (.getfield 28) 3 29 := ⟨by decide +kernel, rfl⟩
theorem dX9_serveRanks_29 : DI cX9_serveRanks 29 (.iload 5) 2 31 := ⟨by decide +kernel, rfl⟩
theorem dX9_serveRanks_31 : DI cX9_serveRanks 31 (.invokevirtual 283) 3 34 := ⟨by decide +kernel, rfl⟩
theorem dX9_serveRanks_34 : DI cX9_serveRanks 34 (.checkcast 161) 3 37 := ⟨by decide +kernel, rfl⟩
theorem dX9_serveRanks_37 : DI cX9_serveRanks 37 (.astore 6) 2 39 := ⟨by decide +kernel, rfl⟩
theorem dX9_serveRanks_39 : DI cX9_serveRanks 39 (.aload 6) 2 41 := ⟨by decide +kernel, rfl⟩
theorem dX9_serveRanks_41 : DI cX9_serveRanks 41 (.getfield 350) 3 44 := ⟨by decide +kernel, rfl⟩
theorem dX9_serveRanks_44 : DI cX9_serveRanks 44 (.sipush 1400) 3 47 := ⟨by decide +kernel, rfl⟩
theorem dX9_serveRanks_47 : DI cX9_serveRanks 47 (.invokestatic 356) 3 50 := ⟨by decide +kernel, rfl⟩
theorem dX9_serveRanks_50 : DI cX9_serveRanks 50 (.istore 7) 2 52 := ⟨by decide +kernel, rfl⟩
theorem dX9_serveRanks_52 : DI cX9_serveRanks 52 (.aload 6) 2 54 := ⟨by decide +kernel, rfl⟩
theorem dX9_serveRanks_54 : DI cX9_serveRanks 54 (.getfield 340) 3 57 := ⟨by decide +kernel, rfl⟩
theorem dX9_serveRanks_57 : DI cX9_serveRanks 57 (.getfield 365) 3 60 := ⟨by decide +kernel, rfl⟩
theorem dX9_serveRanks_60 : DI cX9_serveRanks 60 (.iload 4) 2 62 := ⟨by decide +kernel, rfl⟩
theorem dX9_serveRanks_62 : DB cX9_serveRanks 62 (.if_icmp .ne 27) (27) 3 65 89 := ⟨by decide +kernel, rfl, by decide⟩
theorem dX9_serveRanks_65 : DI cX9_serveRanks 65 (.aload 6) 2 67 := ⟨by decide +kernel, rfl⟩
theorem dX9_serveRanks_67 : DI cX9_serveRanks 67 (.getfield 350) 3 70 := ⟨by decide +kernel, rfl⟩
theorem dX9_serveRanks_70 : DI cX9_serveRanks 70 (.sipush 1400) 3 73 := ⟨by decide +kernel, rfl⟩
theorem dX9_serveRanks_73 : DB cX9_serveRanks 73 (.if_icmp .lt 7) (7) 3 76 80 := ⟨by decide +kernel, rfl, by decide⟩
theorem dX9_serveRanks_76 : DI cX9_serveRanks 76 (.iconst 1) 1 77 := ⟨by decide +kernel, rfl⟩
theorem dX9_serveRanks_77 : DB cX9_serveRanks 77 (.goto 4) (4) 3 80 81 := ⟨by decide +kernel, rfl, by decide⟩
theorem dX9_serveRanks_80 : DI cX9_serveRanks 80 (.iconst 0) 1 81 := ⟨by decide +kernel, rfl⟩
theorem dX9_serveRanks_81 : DI cX9_serveRanks 81 (.iload_n 2) 1 82 := ⟨by decide +kernel, rfl⟩
theorem dX9_serveRanks_82 : DB cX9_serveRanks 82 (.if_icmp .ne 7) (7) 3 85 89 := ⟨by decide +kernel, rfl, by decide⟩
theorem dX9_serveRanks_85 : DI cX9_serveRanks 85 (.iconst 1) 1 86 := ⟨by decide +kernel, rfl⟩
theorem dX9_serveRanks_86 : DB cX9_serveRanks 86 (.goto 4) (4) 3 89 90 := ⟨by decide +kernel, rfl, by decide⟩
theorem dX9_serveRanks_89 : DI cX9_serveRanks 89 (.iconst 0) 1 90 := ⟨by decide +kernel, rfl⟩
theorem dX9_serveRanks_90 : DI cX9_serveRanks 90 (.istore 8) 2 92 := ⟨by decide +kernel, rfl⟩
theorem dX9_serveRanks_92 : DI cX9_serveRanks 92 (.iload 8) 2 94 := ⟨by decide +kernel, rfl⟩
theorem dX9_serveRanks_94 : DB cX9_serveRanks 94 (.ifCond .eq 32) (32) 3 97 126 := ⟨by decide +kernel, rfl, by decide⟩
theorem dX9_serveRanks_97 : DI cX9_serveRanks 97 (.aload 6) 2 99 := ⟨by decide +kernel, rfl⟩
theorem dX9_serveRanks_99 : DI cX9_serveRanks 99 (.getfield 186) 3 102 := ⟨by decide +kernel, rfl⟩
theorem dX9_serveRanks_102 : DI cX9_serveRanks 102 (.getfield 116) 3 105 := ⟨by decide +kernel, rfl⟩
theorem dX9_serveRanks_105 : DB cX9_serveRanks 105 (.ifCond .eq 21) (21) 3 108 126 := ⟨by decide +kernel, rfl, by decide⟩
theorem dX9_serveRanks_108 : DI cX9_serveRanks 108 (.iload 7) 2 110 := ⟨by decide +kernel, rfl⟩
theorem dX9_serveRanks_110 : DI cX9_serveRanks 110 (.iload_n 3) 1 111 := ⟨by decide +kernel, rfl⟩
theorem dX9_serveRanks_111 : DB cX9_serveRanks 111 (.if_icmp .gt 15) (15) 3 114 126 := ⟨by decide +kernel, rfl, by decide⟩
theorem dX9_serveRanks_114 : DI cX9_serveRanks 114 (.aload 6) 2 116 := ⟨by decide +kernel, rfl⟩
theorem dX9_serveRanks_116 : DI cX9_serveRanks 116 (.iload 7) 2 118 := ⟨by decide +kernel, rfl⟩
theorem dX9_serveRanks_118 : DI cX9_serveRanks 118 (.putfield 244) 3 121 := ⟨by decide +kernel, rfl⟩
theorem dX9_serveRanks_121 : DI cX9_serveRanks 121 (.iload_n 3) 1 122 := ⟨by decide +kernel, rfl⟩
theorem dX9_serveRanks_122 : DI cX9_serveRanks 122 (.iload 7) 2 124 := ⟨by decide +kernel, rfl⟩
theorem dX9_serveRanks_124 : DI cX9_serveRanks 124 (.isub) 1 125 := ⟨by decide +kernel, rfl⟩
theorem dX9_serveRanks_125 : DI cX9_serveRanks 125 (.istore_n 3) 1 126 := ⟨by decide +kernel, rfl⟩
theorem dX9_serveRanks_126 : DI cX9_serveRanks 126 (.iinc 5 1) 3 129 := ⟨by decide +kernel, rfl⟩
theorem dX9_serveRanks_129 : DB cX9_serveRanks 129 (.goto (-116)) (-116) 3 132 13 := ⟨by decide +kernel, rfl, by decide⟩
theorem dX9_serveRanks_132 : DI cX9_serveRanks 132 (.iinc 4 (-1)) 3 135 := ⟨by decide +kernel, rfl⟩
theorem dX9_serveRanks_135 : DB cX9_serveRanks 135 (.goto (-130)) (-130) 3 138 5 := ⟨by decide +kernel, rfl, by decide⟩
theorem dX9_serveRanks_138 : DI cX9_serveRanks 138 (.iload_n 3) 1 139 := ⟨by decide +kernel, rfl⟩
theorem dX9_serveRanks_139 : DI cX9_serveRanks 139 (.ireturn) 1 140 := ⟨by decide +kernel, rfl⟩
theorem dX9_shareByLevels_0 : DI cX9_shareByLevels 0 (.iload_n 1) 1 1 := ⟨by decide +kernel, rfl⟩
theorem dX9_shareByLevels_1 : DI cX9_shareByLevels 1 (.istore_n 2) 1 2 := ⟨by decide +kernel, rfl⟩
theorem dX9_shareByLevels_2 : DI cX9_shareByLevels 2 (.iconst 0) 1 3 := ⟨by decide +kernel, rfl⟩
theorem dX9_shareByLevels_3 : DI cX9_shareByLevels 3 (.istore_n 3) 1 4 := ⟨by decide +kernel, rfl⟩
theorem dX9_shareByLevels_4 : DI cX9_shareByLevels 4 (.iload_n 3) 1 5 := ⟨by decide +kernel, rfl⟩
theorem dX9_shareByLevels_5 : DI cX9_shareByLevels 5 (.bipush 10) 2 7 := ⟨by decide +kernel, rfl⟩
theorem dX9_shareByLevels_7 : DB cX9_shareByLevels 7 (.if_icmp .ge 129) (129) 3 10 136 := ⟨by decide +kernel, rfl, by decide⟩
theorem dX9_shareByLevels_10 : DI cX9_shareByLevels 10 (.iload_n 2) 1 11 := ⟨by decide +kernel, rfl⟩
theorem dX9_shareByLevels_11 : DB cX9_shareByLevels 11 (.ifCond .le 125) (125) 3 14 136 := ⟨by decide +kernel, rfl, by decide⟩
theorem dX9_shareByLevels_14 : DI cX9_shareByLevels 14 (.iconst 0) 1 15 := ⟨by decide +kernel, rfl⟩
theorem dX9_shareByLevels_15 : DI cX9_shareByLevels 15 (.istore 4) 2 17 := ⟨by decide +kernel, rfl⟩
theorem dX9_shareByLevels_17 : DI cX9_shareByLevels 17 (.iload_n 2) 1 18 := ⟨by decide +kernel, rfl⟩
theorem dX9_shareByLevels_18 : DI cX9_shareByLevels 18 (.istore 5) 2 20 := ⟨by decide +kernel, rfl⟩
theorem dX9_shareByLevels_20 : DI cX9_shareByLevels 20 (.iconst 0) 1 21 := ⟨by decide +kernel, rfl⟩
theorem dX9_shareByLevels_21 : DI cX9_shareByLevels 21 (.istore 6) 2 23 := ⟨by decide +kernel, rfl⟩
theorem dX9_shareByLevels_23 : DI cX9_shareByLevels 23 (.iload 6) 2 25 := ⟨by decide +kernel, rfl⟩
theorem dX9_shareByLevels_25 : DI cX9_shareByLevels 25 (.aload_n 0) 1 26 := ⟨by decide +kernel, rfl⟩
theorem dX9_shareByLevels_26 : DI cX9_shareByLevels 26 (.getfield 28) 3 29 := ⟨by decide +kernel, rfl⟩
theorem dX9_shareByLevels_29 : DI cX9_shareByLevels 29 (.invokevirtual 63) 3 32 := ⟨by decide +kernel, rfl⟩
theorem dX9_shareByLevels_32 : DB cX9_shareByLevels 32 (.if_icmp .ge 52) (52) 3 35 84 := ⟨by decide +kernel, rfl, by decide⟩
theorem dX9_shareByLevels_35 : DI cX9_shareByLevels 35 (.aload_n 0) 1 36 := ⟨by decide +kernel, rfl⟩
theorem dX9_shareByLevels_36 : DI cX9_shareByLevels 36 (.getfield 28) 3 39 := ⟨by decide +kernel, rfl⟩
theorem dX9_shareByLevels_39 : DI cX9_shareByLevels 39 (.iload 6) 2 41 := ⟨by decide +kernel, rfl⟩
theorem dX9_shareByLevels_41 : DI cX9_shareByLevels 41 (.invokevirtual 283) 3 44 := ⟨by decide +kernel, rfl⟩
theorem dX9_shareByLevels_44 : DI cX9_shareByLevels 44 (.checkcast 161) 3 47 := ⟨by decide +kernel, rfl⟩
theorem dX9_shareByLevels_47 : DI cX9_shareByLevels 47 (.astore 7) 2 49 := ⟨by decide +kernel, rfl⟩
theorem dX9_shareByLevels_49 : DI cX9_shareByLevels 49 (.aload 7) 2 51 := ⟨by decide +kernel, rfl⟩
theorem dX9_shareByLevels_51 : DI cX9_shareByLevels 51 (.invokevirtual 368) 3 54 := ⟨by decide +kernel, rfl⟩
theorem dX9_shareByLevels_54 : DB cX9_shareByLevels 54 (.ifCond .eq 24) (24) 3 57 78 := ⟨by decide +kernel, rfl, by decide⟩
theorem dX9_shareByLevels_57 : DI cX9_shareByLevels 57 (.iinc 4 1) 3 60 := ⟨by decide +kernel, rfl⟩
theorem dX9_shareByLevels_60 : DI cX9_shareByLevels 60 (.iload 5) 2 62 := ⟨by decide +kernel, rfl⟩
theorem dX9_shareByLevels_62 : DI cX9_shareByLevels 62 (.aload 7) 2 64 := ⟨by decide +kernel, rfl⟩
theorem dX9_shareByLevels_64 : DI cX9_shareByLevels 64 (.getfield 350) 3 67 := ⟨by decide +kernel, rfl⟩
theorem dX9_shareByLevels_67 : DI cX9_shareByLevels 67 (.aload 7) 2 69 := ⟨by decide +kernel, rfl⟩
theorem dX9_shareByLevels_69 : DI cX9_shareByLevels 69 (.getfield 244) 3 72 := ⟨by decide +kernel, rfl⟩
theorem dX9_shareByLevels_72 : DI cX9_shareByLevels 72 (.isub) 1 73 := ⟨by decide +kernel, rfl⟩
theorem dX9_shareByLevels_73 : DI cX9_shareByLevels 73 (.invokestatic 356) 3 76 := ⟨by decide +kernel, rfl⟩
theorem dX9_shareByLevels_76 : DI cX9_shareByLevels 76 (.istore 5) 2 78 := ⟨by decide +kernel, rfl⟩
theorem dX9_shareByLevels_78 : DI cX9_shareByLevels 78 (.iinc 6 1) 3 81 := ⟨by decide +kernel, rfl⟩
theorem dX9_shareByLevels_81 : DB cX9_shareByLevels 81 (.goto (-58)) (-58) 3 84 23 := ⟨by decide +kernel, rfl, by decide⟩
theorem dX9_shareByLevels_84 : DI cX9_shareByLevels 84 (.iload 4) 2 86 := ⟨by decide +kernel, rfl⟩
theorem dX9_shareByLevels_86 : DB cX9_shareByLevels 86 (.ifCond .ne 4) (4) 3 89 90 := ⟨by decide +kernel, rfl, by decide⟩
theorem dX9_shareByLevels_89 : DI cX9_shareByLevels 89 (.return_) 1 90 := ⟨by decide +kernel, rfl⟩
theorem dX9_shareByLevels_90 : DI cX9_shareByLevels 90 (.iload_n 2) 1 91 := ⟨by decide +kernel, rfl⟩
theorem dX9_shareByLevels_91 : DI cX9_shareByLevels 91 (.iload 4) 2 93 := ⟨by decide +kernel, rfl⟩
theorem dX9_shareByLevels_93 : DB cX9_shareByLevels 93 (.if_icmp .ge 10) (10) 3 96 103 := ⟨by decide +kernel, rfl, by decide⟩
theorem dX9_shareByLevels_96 : DI cX9_shareByLevels 96 (.aload_n 0) 1 97 := ⟨by decide +kernel, rfl⟩
theorem dX9_shareByLevels_97 : DI cX9_shareByLevels 97 (.iload_n 2) 1 98 := ⟨by decide +kernel, rfl⟩
theorem dX9_shareByLevels_98 : DI cX9_shareByLevels 98 (.iconst 1) 1 99 := ⟨by decide +kernel, rfl⟩
theorem dX9_shareByLevels_99 : DI cX9_shareByLevels 99 (.invokevirtual 372) 3 102 := ⟨by decide +kernel, rfl⟩
theorem dX9_shareByLevels_102 : DI cX9_shareByLevels 102 (.return_) 1 103 := ⟨by decide +kernel, rfl⟩
theorem dX9_shareByLevels_103 : DI cX9_shareByLevels 103 (.iload 5) 2 105 := ⟨by decide +kernel, rfl⟩
theorem dX9_shareByLevels_105 : DI cX9_shareByLevels 105 (.iload_n 2) 1 106 := ⟨by decide +kernel, rfl⟩
theorem dX9_shareByLevels_106 : DI cX9_shareByLevels 106 (.iload 4) 2 108 := ⟨by decide +kernel, rfl⟩
theorem dX9_shareByLevels_108 : DI cX9_shareByLevels 108 (.idiv) 1 109 := ⟨by decide +kernel, rfl⟩
theorem dX9_shareByLevels_109 : DI cX9_shareByLevels 109 (.invokestatic 356) 3 112 := ⟨by decide +kernel, rfl⟩
theorem dX9_shareByLevels_112 : DI cX9_shareByLevels 112 (.istore 5) 2 114 := ⟨by decide +kernel, rfl⟩
theorem dX9_shareByLevels_114 : DI cX9_shareByLevels 114 (.aload_n 0) 1 115 := ⟨by decide +kernel, rfl⟩
theorem dX9_shareByLevels_115 : DI cX9_shareByLevels 115 (.iload 4) 2 117 := ⟨by decide +kernel, rfl⟩
theorem dX9_shareByLevels_117 : DI cX9_shareByLevels 117 (.iload 5) 2 119 := ⟨by decide +kernel, rfl⟩
theorem dX9_shareByLevels_119 : DI cX9_shareByLevels 119 (.invokevirtual 372) 3 122 := ⟨by decide +kernel, rfl⟩
theorem dX9_shareByLevels_122 : DI cX9_shareByLevels 122 (.iload_n 2) 1 123 := ⟨by decide +kernel, rfl⟩
theorem dX9_shareByLevels_123 : DI cX9_shareByLevels 123 (.iload 4) 2 125 := ⟨by decide +kernel, rfl⟩
theorem dX9_shareByLevels_125 : DI cX9_shareByLevels 125 (.iload 5) 2 127 := ⟨by decide +kernel, rfl⟩
theorem dX9_shareByLevels_127 : DI cX9_shareByLevels 127 (.imul) 1 128 := ⟨by decide +kernel, rfl⟩
theorem dX9_shareByLevels_128 : DI cX9_shareByLevels 128 (.isub) 1 129 := ⟨by decide +kernel, rfl⟩
theorem dX9_shareByLevels_129 : DI cX9_shareByLevels 129 (.istore_n 2) 1 130 := ⟨by decide +kernel, rfl⟩
theorem dX9_shareByLevels_130 : DI cX9_shareByLevels 130 (.iinc 3 1) 3 133 := ⟨by decide +kernel, rfl⟩
theorem dX9_shareByLevels_133 : DB cX9_shareByLevels 133 (.goto (-129)) (-129) 3 136 4 := ⟨by decide +kernel, rfl, by decide⟩
theorem dX9_shareByLevels_136 : DI cX9_shareByLevels 136 (.return_) 1 137 := ⟨by decide +kernel, rfl⟩
theorem dX9_raise_0 : DI cX9_raise 0 (.iload_n 1) 1 1 := ⟨by decide +kernel, rfl⟩
theorem dX9_raise_1 : DI cX9_raise 1 (.istore_n 3) 1 2 := ⟨by decide +kernel, rfl⟩
theorem dX9_raise_2 : DI cX9_raise 2 (.iconst 0) 1 3 := ⟨by decide +kernel, rfl⟩
theorem dX9_raise_3 : DI cX9_raise 3 (.istore 4) 2 5 := ⟨by decide +kernel, rfl⟩
theorem dX9_raise_5 : DI cX9_raise 5 (.iload 4) 2 7 := ⟨by decide +kernel, rfl⟩
theorem dX9_raise_7 : DI cX9_raise 7 (.aload_n 0) 1 8 := ⟨by decide +kernel, rfl⟩
theorem dX9_raise_8 : DI cX9_raise 8 (.getfield 28) 3 11 := ⟨by decide +kernel, rfl⟩
theorem dX9_raise_11 : DI cX9_raise 11 (.invokevirtual 63) 3 14 := ⟨by decide +kernel, rfl⟩
theorem dX9_raise_14 : DB cX9_raise 14 (.if_icmp .ge 49) (49) 3 17 63 := ⟨by decide +kernel, rfl, by decide⟩
theorem dX9_raise_17 : DI cX9_raise 17 (.iload_n 3) 1 18 := ⟨by decide +kernel, rfl⟩
theorem dX9_raise_18 : DB cX9_raise 18 (.ifCond .le 45) (45) 3 21 63 := ⟨by decide +kernel, rfl, by decide⟩
theorem dX9_raise_21 : DI cX9_raise 21 (.aload_n 0) 1 22 := ⟨by decide +kernel, rfl⟩
theorem dX9_raise_22 : DI cX9_raise 22 (.getfield 28) 3 25 := ⟨by decide +kernel, rfl⟩
theorem dX9_raise_25 : DI cX9_raise 25 (.iload 4) 2 27 := ⟨by decide +kernel, rfl⟩
theorem dX9_raise_27 : DI cX9_raise 27 (.invokevirtual 283) 3 30 := ⟨by decide +kernel, rfl⟩
theorem dX9_raise_30 : DI cX9_raise 30 (.checkcast 161) 3 33 := ⟨by decide +kernel, rfl⟩
theorem dX9_raise_33 : DI cX9_raise 33 (.astore 5) 2 35 := ⟨by decide +kernel, rfl⟩
theorem dX9_raise_35 : DI cX9_raise 35 (.aload 5) 2 37 := ⟨by decide +kernel, rfl⟩
theorem dX9_raise_37 : DI cX9_raise 37 (.invokevirtual 368) 3 40 := ⟨by decide +kernel, rfl⟩
theorem dX9_raise_40 : DB cX9_raise 40 (.ifCond .eq 17) (17) 3 43 57 := ⟨by decide +kernel, rfl, by decide⟩
theorem dX9_raise_43 : DI cX9_raise 43 (.aload 5) 2 45 := ⟨by decide +kernel, rfl⟩
theorem dX9_raise_45 : DI cX9_raise 45 (.dup) 1 46 := ⟨by decide +kernel, rfl⟩
theorem dX9_raise_46 : DI cX9_raise 46 (.getfield 244) 3 49 := ⟨by decide +kernel, rfl⟩
theorem dX9_raise_49 : DI cX9_raise 49 (.iload_n 2) 1 50 := ⟨by decide +kernel, rfl⟩
theorem dX9_raise_50 : DI cX9_raise 50 (.iadd) 1 51 := ⟨by decide +kernel, rfl⟩
theorem dX9_raise_51 : DI cX9_raise 51 (.putfield 244) 3 54 := ⟨by decide +kernel, rfl⟩
theorem dX9_raise_54 : DI cX9_raise 54 (.iinc 3 (-1)) 3 57 := ⟨by decide +kernel, rfl⟩
theorem dX9_raise_57 : DI cX9_raise 57 (.iinc 4 1) 3 60 := ⟨by decide +kernel, rfl⟩
theorem dX9_raise_60 : DB cX9_raise 60 (.goto (-55)) (-55) 3 63 5 := ⟨by decide +kernel, rfl, by decide⟩
theorem dX9_raise_63 : DI cX9_raise 63 (.return_) 1 64 := ⟨by decide +kernel, rfl⟩
theorem dX9_shareWattByWatt_0 : DI cX9_shareWattByWatt 0 (.iload_n 1) 1 1 := ⟨by decide +kernel, rfl⟩
theorem dX9_shareWattByWatt_1 : DI cX9_shareWattByWatt 1 (.istore_n 2) 1 2 := ⟨by decide +kernel, rfl⟩
theorem dX9_shareWattByWatt_2 : DI cX9_shareWattByWatt 2 (.sipush 1400) 3 5 := ⟨by decide +kernel, rfl⟩
theorem dX9_shareWattByWatt_5 : DI cX9_shareWattByWatt 5 (.istore_n 3) 1 6 := ⟨by decide +kernel, rfl⟩
theorem dX9_shareWattByWatt_6 : DI cX9_shareWattByWatt 6 (.iload_n 3) 1 7 := ⟨by decide +kernel, rfl⟩
theorem dX9_shareWattByWatt_7 : DI cX9_shareWattByWatt 7 (.ldc 58) 2 9 := ⟨by decide +kernel, rfl⟩
theorem dX9_shareWattByWatt_9 : DB cX9_shareWattByWatt 9 (.if_icmp .ge 95) (95) 3 12 104 := ⟨by decide +kernel, rfl, by decide⟩
theorem dX9_shareWattByWatt_12 : DI cX9_shareWattByWatt 12 (.iload_n 2) 1 13 := ⟨by decide +kernel, rfl⟩
theorem dX9_shareWattByWatt_13 : DB cX9_shareWattByWatt 13 (.ifCond .le 91) (91) 3 16 104 := ⟨by decide +kernel, rfl, by decide⟩
theorem dX9_shareWattByWatt_16 : DI cX9_shareWattByWatt 16 (.iconst 0) 1 17 := ⟨by decide +kernel, rfl⟩
theorem dX9_shareWattByWatt_17 : DI cX9_shareWattByWatt 17 (.istore 4) 2 19 := ⟨by decide +kernel, rfl⟩
theorem dX9_shareWattByWatt_19 : DI cX9_shareWattByWatt 19 (.iconst 0) 1 20 := ⟨by decide +kernel, rfl⟩
theorem dX9_shareWattByWatt_20 : DI cX9_shareWattByWatt 20 (.istore 5) 2 22 := ⟨by decide +kernel, rfl⟩
theorem dX9_shareWattByWatt_22 : DI cX9_shareWattByWatt 22 (.iload 5) 2 24 := ⟨by decide +kernel, rfl⟩
theorem dX9_shareWattByWatt_24 : DI cX9_shareWattByWatt 24 (.aload_n 0) 1 25 := ⟨by decide +kernel, rfl⟩
theorem dX9_shareWattByWatt_25 : DI cX9_shareWattByWatt 25 (.getfield 28) 3 28 := ⟨by decide +kernel, rfl⟩
theorem dX9_shareWattByWatt_28 : DI cX9_shareWattByWatt 28 (.invokevirtual 63) 3 31 := ⟨by decide +kernel, rfl⟩
theorem dX9_shareWattByWatt_31 : DB cX9_shareWattByWatt 31 (.if_icmp .ge 61) (61) 3 34 92 := ⟨by decide +kernel, rfl, by decide⟩
theorem dX9_shareWattByWatt_34 : DI cX9_shareWattByWatt 34 (.iload_n 2) 1 35 := ⟨by decide +kernel, rfl⟩
theorem dX9_shareWattByWatt_35 : DB cX9_shareWattByWatt 35 (.ifCond .le 57) (57) 3 38 92 := ⟨by decide +kernel, rfl, by decide⟩
theorem dX9_shareWattByWatt_38 : DI cX9_shareWattByWatt 38 (.aload_n 0) 1 39 := ⟨by decide +kernel, rfl⟩
theorem dX9_shareWattByWatt_39 : DI cX9_shareWattByWatt 39 (.getfield 28) 3 42 := ⟨by decide +kernel, rfl⟩
theorem dX9_shareWattByWatt_42 : DI cX9_shareWattByWatt 42 (.iload 5) 2 44 := ⟨by decide +kernel, rfl⟩
theorem dX9_shareWattByWatt_44 : DI cX9_shareWattByWatt 44 (.invokevirtual 283) 3 47 := ⟨by decide +kernel, rfl⟩
theorem dX9_shareWattByWatt_47 : DI cX9_shareWattByWatt 47 (.checkcast 161) 3 50 := ⟨by decide +kernel, rfl⟩
theorem dX9_shareWattByWatt_50 : DI cX9_shareWattByWatt 50 (.astore 6) 2 52 := ⟨by decide +kernel, rfl⟩
theorem dX9_shareWattByWatt_52 : DI cX9_shareWattByWatt 52 (.aload 6) 2 54 := ⟨by decide +kernel, rfl⟩
theorem dX9_shareWattByWatt_54 : DI cX9_shareWattByWatt 54 (.getfield 244) 3 57 := ⟨by decide +kernel, rfl⟩
theorem dX9_shareWattByWatt_57 : DI cX9_shareWattByWatt 57 (.iload_n 3) 1 58 := ⟨by decide +kernel, rfl⟩
theorem dX9_shareWattByWatt_58 : DB cX9_shareWattByWatt 58 (.if_icmp .ne 28) (28) 3 61 86 := ⟨by decide +kernel, rfl, by decide⟩
theorem dX9_shareWattByWatt_61 : DI cX9_shareWattByWatt 61 (.aload 6) 2 63 := ⟨by decide +kernel, rfl⟩
theorem dX9_shareWattByWatt_63 : DI cX9_shareWattByWatt 63 (.invokevirtual 368) 3 66 := ⟨by decide +kernel, rfl⟩
theorem dX9_shareWattByWatt_66 : DB cX9_shareWattByWatt 66 (.ifCond .eq 20) (20) 3 69 86 := ⟨by decide +kernel, rfl, by decide⟩
theorem dX9_shareWattByWatt_69 : DI cX9_shareWattByWatt 69 (.aload 6) 2 71 := ⟨by decide +kernel, rfl⟩
theorem dX9_shareWattByWatt_71 : DI cX9_shareWattByWatt 71 (.dup) 1 72 := ⟨by decide +kernel, rfl⟩
theorem dX9_shareWattByWatt_72 : DI cX9_shareWattByWatt 72 (.getfield 244) 3 75 := ⟨by decide +kernel, rfl⟩
theorem dX9_shareWattByWatt_75 : DI cX9_shareWattByWatt 75 (.iconst 1) 1 76 := ⟨by decide +kernel, rfl⟩
theorem dX9_shareWattByWatt_76 : DI cX9_shareWattByWatt 76 (.iadd) 1 77 := ⟨by decide +kernel, rfl⟩
theorem dX9_shareWattByWatt_77 : DI cX9_shareWattByWatt 77 (.putfield 244) 3 80 := ⟨by decide +kernel, rfl⟩
theorem dX9_shareWattByWatt_80 : DI cX9_shareWattByWatt 80 (.iinc 2 (-1)) 3 83 := ⟨by decide +kernel, rfl⟩
theorem dX9_shareWattByWatt_83 : DI cX9_shareWattByWatt 83 (.iconst 1) 1 84 := ⟨by decide +kernel, rfl⟩
theorem dX9_shareWattByWatt_84 : DI cX9_shareWattByWatt 84 (.istore 4) 2 86 := ⟨by decide +kernel, rfl⟩
theorem dX9_shareWattByWatt_86 : DI cX9_shareWattByWatt 86 (.iinc 5 1) 3 89 := ⟨by decide +kernel, rfl⟩
theorem dX9_shareWattByWatt_89 : DB cX9_shareWattByWatt 89 (.goto (-67)) (-67) 3 92 22 := ⟨by decide +kernel, rfl, by decide⟩
theorem dX9_shareWattByWatt_92 : DI cX9_shareWattByWatt 92 (.iload 4) 2 94 := ⟨by decide +kernel, rfl⟩
theorem dX9_shareWattByWatt_94 : DB cX9_shareWattByWatt 94 (.ifCond .ne 4) (4) 3 97 98 := ⟨by decide +kernel, rfl, by decide⟩
theorem dX9_shareWattByWatt_97 : DI cX9_shareWattByWatt 97 (.return_) 1 98 := ⟨by decide +kernel, rfl⟩
theorem dX9_shareWattByWatt_98 : DI cX9_shareWattByWatt 98 (.iinc 3 1) 3 101 := ⟨by decide +kernel, rfl⟩
theorem dX9_shareWattByWatt_101 : DB cX9_shareWattByWatt 101 (.goto (-95)) (-95) 3 104 6 := ⟨by decide +kernel, rfl, by decide⟩
theorem dX9_shareWattByWatt_104 : DI cX9_shareWattByWatt 104 (.return_) 1 105 := ⟨by decide +kernel, rfl⟩
theorem dX9_passMinute_0 : DI cX9_passMinute 0 (.aload_n 0) 1 1 := ⟨by decide +kernel, rfl⟩
theorem dX9_passMinute_1 : DI cX9_passMinute 1 (.aload_n 0) 1 2 := ⟨by decide +kernel, rfl⟩
theorem dX9_passMinute_2 : DI cX9_passMinute 2 (.invokevirtual 237) 3 5 := ⟨by decide +kernel, rfl⟩
theorem dX9_passMinute_5 : DI cX9_passMinute 5 (.invokevirtual 240) 3 8 := ⟨by decide +kernel, rfl⟩
theorem dX9_passMinute_8 : DI cX9_passMinute 8 (.iconst 0) 1 9 := ⟨by decide +kernel, rfl⟩
theorem dX9_passMinute_9 : DI cX9_passMinute 9 (.istore_n 1) 1 10 := ⟨by decide +kernel, rfl⟩
theorem dX9_passMinute_10 : DI cX9_passMinute 10 (.iconst 0) 1 11 := ⟨by decide +kernel, rfl⟩
theorem dX9_passMinute_11 : DI cX9_passMinute 11 (.istore_n 2) 1 12 := ⟨by decide +kernel, rfl⟩
theorem dX9_passMinute_12 : DI cX9_passMinute 12 (.iload_n 2) 1 13 := ⟨by decide +kernel, rfl⟩
theorem dX9_passMinute_13 : DI cX9_passMinute 13 (.aload_n 0) 1 14 := ⟨by decide +kernel, rfl⟩
theorem dX9_passMinute_14 : DI cX9_passMinute 14 (.getfield 28) 3 17 := ⟨by decide +kernel, rfl⟩
theorem dX9_passMinute_17 : DI cX9_passMinute 17 (.invokevirtual 63) 3 20 := ⟨by decide +kernel, rfl⟩
theorem dX9_passMinute_20 : DB cX9_passMinute 20 (.if_icmp .ge 32) (32) 3 23 52 := ⟨by decide +kernel, rfl, by decide⟩
theorem dX9_passMinute_23 : DI cX9_passMinute 23 (.aload_n 0) 1 24 := ⟨by decide +kernel, rfl⟩
theorem dX9_passMinute_24 : DI cX9_passMinute 24 (.getfield 28) 3 27 := ⟨by decide +kernel, rfl⟩
theorem dX9_passMinute_27 : DI cX9_passMinute 27 (.iload_n 2) 1 28 := ⟨by decide +kernel, rfl⟩
theorem dX9_passMinute_28 : DI cX9_passMinute 28 (.invokevirtual 283) 3 31 := ⟨by decide +kernel, rfl⟩
theorem dX9_passMinute_31 : DI cX9_passMinute 31 (.checkcast 161) 3 34 := ⟨by decide +kernel, rfl⟩
theorem dX9_passMinute_34 : DI cX9_passMinute 34 (.astore_n 3) 1 35 := ⟨by decide +kernel, rfl⟩
theorem dX9_passMinute_35 : DI cX9_passMinute 35 (.iload_n 1) 1 36 := ⟨by decide +kernel, rfl⟩
theorem dX9_passMinute_36 : DI cX9_passMinute 36 (.aload_n 3) 1 37 := ⟨by decide +kernel, rfl⟩
theorem dX9_passMinute_37 : DI cX9_passMinute 37 (.getfield 244) 3 40 := ⟨by decide +kernel, rfl⟩
theorem dX9_passMinute_40 : DI cX9_passMinute 40 (.iadd) 1 41 := ⟨by decide +kernel, rfl⟩
theorem dX9_passMinute_41 : DI cX9_passMinute 41 (.istore_n 1) 1 42 := ⟨by decide +kernel, rfl⟩
theorem dX9_passMinute_42 : DI cX9_passMinute 42 (.aload_n 3) 1 43 := ⟨by decide +kernel, rfl⟩
theorem dX9_passMinute_43 : DI cX9_passMinute 43 (.invokestatic 375) 3 46 := ⟨by decide +kernel, rfl⟩
theorem dX9_passMinute_46 : DI cX9_passMinute 46 (.iinc 2 1) 3 49 := ⟨by decide +kernel, rfl⟩
theorem dX9_passMinute_49 : DB cX9_passMinute 49 (.goto (-37)) (-37) 3 52 12 := ⟨by decide +kernel, rfl, by decide⟩
theorem dX9_passMinute_52 : DI cX9_passMinute 52 (.iload_n 1) 1 53 := ⟨by decide +kernel, rfl⟩
theorem dX9_passMinute_53 : DI cX9_passMinute 53 (.aload_n 0) 1 54 := ⟨by decide +kernel, rfl⟩
theorem dX9_passMinute_54 : DI cX9_passMinute 54 (.getfield 35) 3 57 := ⟨by decide +kernel, rfl⟩
theorem dX9_passMinute_57 : DI cX9_passMinute 57 (.aload_n 0) 1 58 := ⟨by decide +kernel, rfl⟩
theorem dX9_passMinute_58 : DI cX9_passMinute 58 (.getfield 38) 3 61 := ⟨by decide +kernel, rfl⟩
theorem dX9_passMinute_61 : DI cX9_passMinute 61 (.iadd) 1 62 := ⟨by decide +kernel, rfl⟩
theorem dX9_passMinute_62 : DB cX9_passMinute 62 (.if_icmp .le 13) (13) 3 65 75 := ⟨by decide +kernel, rfl, by decide⟩
theorem dX9_passMinute_65 : DI cX9_passMinute 65 (.aload_n 0) 1 66 := ⟨by decide +kernel, rfl⟩
theorem dX9_passMinute_66 : DI cX9_passMinute 66 (.dup) 1 67 := ⟨by decide +kernel, rfl⟩
theorem dX9_passMinute_67 : DI cX9_passMinute 67 (.getfield 44) 3 70 := ⟨by decide +kernel, rfl⟩
theorem dX9_passMinute_70 : DI cX9_passMinute 70 (.iconst 1) 1 71 := ⟨by decide +kernel, rfl⟩
theorem dX9_passMinute_71 : DI cX9_passMinute 71 (.iadd) 1 72 := ⟨by decide +kernel, rfl⟩
theorem dX9_passMinute_72 : DI cX9_passMinute 72 (.putfield 44) 3 75 := ⟨by decide +kernel, rfl⟩
theorem dX9_passMinute_75 : DI cX9_passMinute 75 (.aload_n 0) 1 76 := ⟨by decide +kernel, rfl⟩
theorem dX9_passMinute_76 : DI cX9_passMinute 76 (.dup) 1 77 := ⟨by decide +kernel, rfl⟩
theorem dX9_passMinute_77 : DI cX9_passMinute 77 (.getfield 31) 3 80 := ⟨by decide +kernel, rfl⟩
theorem dX9_passMinute_80 : DI cX9_passMinute 80 (.iconst 1) 1 81 := ⟨by decide +kernel, rfl⟩
theorem dX9_passMinute_81 : DI cX9_passMinute 81 (.iadd) 1 82 := ⟨by decide +kernel, rfl⟩
theorem dX9_passMinute_82 : DI cX9_passMinute 82 (.putfield 31) 3 85 := ⟨by decide +kernel, rfl⟩
theorem dX9_passMinute_85 : DI cX9_passMinute 85 (.aload_n 0) 1 86 := ⟨by decide +kernel, rfl⟩
theorem dX9_passMinute_86 : DI cX9_passMinute 86 (.getfield 31) 3 89 := ⟨by decide +kernel, rfl⟩
theorem dX9_passMinute_89 : DI cX9_passMinute 89 (.sipush 1440) 3 92 := ⟨by decide +kernel, rfl⟩
theorem dX9_passMinute_92 : DI cX9_passMinute 92 (.irem) 1 93 := ⟨by decide +kernel, rfl⟩
theorem dX9_passMinute_93 : DB cX9_passMinute 93 (.ifCond .ne 7) (7) 3 96 100 := ⟨by decide +kernel, rfl, by decide⟩
theorem dX9_passMinute_96 : DI cX9_passMinute 96 (.aload_n 0) 1 97 := ⟨by decide +kernel, rfl⟩
theorem dX9_passMinute_97 : DI cX9_passMinute 97 (.invokevirtual 378) 3 100 := ⟨by decide +kernel, rfl⟩
theorem dX9_passMinute_100 : DI cX9_passMinute 100 (.return_) 1 101 := ⟨by decide +kernel, rfl⟩
theorem dX9_letFlow_0 : DI cX9_letFlow 0 (.aload_n 0) 1 1 := ⟨by decide +kernel, rfl⟩
theorem dX9_letFlow_1 : DI cX9_letFlow 1 (.getfield 179) 3 4 := ⟨by decide +kernel, rfl⟩
theorem dX9_letFlow_4 : DI cX9_letFlow 4 (.invokevirtual 381) 3 7 := ⟨by decide +kernel, rfl⟩
theorem dX9_letFlow_7 : DI cX9_letFlow 7 (.istore_n 1) 1 8 := ⟨by decide +kernel, rfl⟩
theorem dX9_letFlow_8 : DI cX9_letFlow 8 (.aload_n 0) 1 9 := ⟨by decide +kernel, rfl⟩
theorem dX9_letFlow_9 : DI cX9_letFlow 9 (.aload_n 0) 1 10 := ⟨by decide +kernel, rfl⟩
theorem dX9_letFlow_10 : DI cX9_letFlow 10 (.getfield 244) 3 13 := ⟨by decide +kernel, rfl⟩
theorem dX9_letFlow_13 : DI cX9_letFlow 13 (.putfield 220) 3 16 := ⟨by decide +kernel, rfl⟩
theorem dX9_letFlow_16 : DI cX9_letFlow 16 (.aload_n 0) 1 17 := ⟨by decide +kernel, rfl⟩
theorem dX9_letFlow_17 : DI cX9_letFlow 17 (.getfield 179) 3 20 := ⟨by decide +kernel, rfl⟩
theorem dX9_letFlow_20 : DI cX9_letFlow 20 (.dup) 1 21 := ⟨by decide +kernel, rfl⟩
theorem dX9_letFlow_21 : DI cX9_letFlow 21 (.getfield 234) 3 24 := ⟨by decide +kernel, rfl⟩
theorem dX9_letFlow_24 : DI cX9_letFlow 24 (.aload_n 0) 1 25 := ⟨by decide +kernel, rfl⟩
theorem dX9_letFlow_25 : DI cX9_letFlow 25 (.getfield 244) 3 28 := ⟨by decide +kernel, rfl⟩
theorem dX9_letFlow_28 : DI cX9_letFlow 28 (.iadd) 1 29 := ⟨by decide +kernel, rfl⟩
theorem dX9_letFlow_29 : DI cX9_letFlow 29 (.putfield 234) 3 32 := ⟨by decide +kernel, rfl⟩
theorem dX9_letFlow_32 : DI cX9_letFlow 32 (.aload_n 0) 1 33 := ⟨by decide +kernel, rfl⟩
theorem dX9_letFlow_33 : DI cX9_letFlow 33 (.dup) 1 34 := ⟨by decide +kernel, rfl⟩
theorem dX9_letFlow_34 : DI cX9_letFlow 34 (.getfield 223) 3 37 := ⟨by decide +kernel, rfl⟩
theorem dX9_letFlow_37 : DI cX9_letFlow 37 (.aload_n 0) 1 38 := ⟨by decide +kernel, rfl⟩
theorem dX9_letFlow_38 : DI cX9_letFlow 38 (.getfield 244) 3 41 := ⟨by decide +kernel, rfl⟩
theorem dX9_letFlow_41 : DI cX9_letFlow 41 (.iadd) 1 42 := ⟨by decide +kernel, rfl⟩
theorem dX9_letFlow_42 : DI cX9_letFlow 42 (.putfield 223) 3 45 := ⟨by decide +kernel, rfl⟩
theorem dX9_letFlow_45 : DI cX9_letFlow 45 (.aload_n 0) 1 46 := ⟨by decide +kernel, rfl⟩
theorem dX9_letFlow_46 : DI cX9_letFlow 46 (.getfield 200) 3 49 := ⟨by decide +kernel, rfl⟩
theorem dX9_letFlow_49 : DI cX9_letFlow 49 (.aload_n 0) 1 50 := ⟨by decide +kernel, rfl⟩
theorem dX9_letFlow_50 : DI cX9_letFlow 50 (.getfield 223) 3 53 := ⟨by decide +kernel, rfl⟩
theorem dX9_letFlow_53 : DI cX9_letFlow 53 (.iload_n 1) 1 54 := ⟨by decide +kernel, rfl⟩
theorem dX9_letFlow_54 : DI cX9_letFlow 54 (.invokevirtual 384) 3 57 := ⟨by decide +kernel, rfl⟩
theorem dX9_letFlow_57 : DI cX9_letFlow 57 (.aload_n 0) 1 58 := ⟨by decide +kernel, rfl⟩
theorem dX9_letFlow_58 : DI cX9_letFlow 58 (.getfield 186) 3 61 := ⟨by decide +kernel, rfl⟩
theorem dX9_letFlow_61 : DI cX9_letFlow 61 (.getfield 116) 3 64 := ⟨by decide +kernel, rfl⟩
theorem dX9_letFlow_64 : DB cX9_letFlow 64 (.ifCond .eq 11) (11) 3 67 75 := ⟨by decide +kernel, rfl, by decide⟩
theorem dX9_letFlow_67 : DI cX9_letFlow 67 (.aload_n 0) 1 68 := ⟨by decide +kernel, rfl⟩
theorem dX9_letFlow_68 : DI cX9_letFlow 68 (.getfield 200) 3 71 := ⟨by decide +kernel, rfl⟩
theorem dX9_letFlow_71 : DI cX9_letFlow 71 (.invokevirtual 310) 3 74 := ⟨by decide +kernel, rfl⟩
theorem dX9_letFlow_74 : DI cX9_letFlow 74 (.pop) 1 75 := ⟨by decide +kernel, rfl⟩
theorem dX9_letFlow_75 : DI cX9_letFlow 75 (.return_) 1 76 := ⟨by decide +kernel, rfl⟩
theorem dX9_listCards_0 : DI cX9_listCards 0 (.iconst 0) 1 1 := ⟨by decide +kernel, rfl⟩
theorem dX9_listCards_1 : DI cX9_listCards 1 (.istore_n 1) 1 2 := ⟨by decide +kernel, rfl⟩
theorem dX9_listCards_2 : DI cX9_listCards 2 (.iload_n 1) 1 3 := ⟨by decide +kernel, rfl⟩
theorem dX9_listCards_3 : DI cX9_listCards 3 (.aload_n 0) 1 4 := ⟨by decide +kernel, rfl⟩
theorem dX9_listCards_4 : DI cX9_listCards 4 (.getfield 22) 3 7 := ⟨by decide +kernel, rfl⟩
theorem dX9_listCards_7 : DI cX9_listCards 7 (.invokevirtual 63) 3 10 := ⟨by decide +kernel, rfl⟩
theorem dX9_listCards_10 : DB cX9_listCards 10 (.if_icmp .ge 29) (29) 3 13 39 := ⟨by decide +kernel, rfl, by decide⟩
theorem dX9_listCards_13 : DI cX9_listCards 13 (.aload_n 0) 1 14 := ⟨by decide +kernel, rfl⟩
theorem dX9_listCards_14 : DI cX9_listCards 14 (.getfield 22) 3 17 := ⟨by decide +kernel, rfl⟩
theorem dX9_listCards_17 : DI cX9_listCards 17 (.iload_n 1) 1 18 := ⟨by decide +kernel, rfl⟩
theorem dX9_listCards_18 : DI cX9_listCards 18 (.invokevirtual 283) 3 21 := ⟨by decide +kernel, rfl⟩
theorem dX9_listCards_21 : DI cX9_listCards 21 (.checkcast 86) 3 24 := ⟨by decide +kernel, rfl⟩
theorem dX9_listCards_24 : DI cX9_listCards 24 (.astore_n 2) 1 25 := ⟨by decide +kernel, rfl⟩
theorem dX9_listCards_25 : DI cX9_listCards 25 (.aload_n 2) 1 26 := ⟨by decide +kernel, rfl⟩
theorem dX9_listCards_26 : DI cX9_listCards 26 (.aload_n 2) 1 27 := ⟨by decide +kernel, rfl⟩
theorem dX9_listCards_27 : DI cX9_listCards 27 (.getfield 95) 3 30 := ⟨by decide +kernel, rfl⟩
theorem dX9_listCards_30 : DI cX9_listCards 30 (.putfield 333) 3 33 := ⟨by decide +kernel, rfl⟩
theorem dX9_listCards_33 : DI cX9_listCards 33 (.iinc 1 1) 3 36 := ⟨by decide +kernel, rfl⟩
theorem dX9_listCards_36 : DB cX9_listCards 36 (.goto (-34)) (-34) 3 39 2 := ⟨by decide +kernel, rfl, by decide⟩
theorem dX9_listCards_39 : DI cX9_listCards 39 (.return_) 1 40 := ⟨by decide +kernel, rfl⟩
theorem dX9_settleIfDue_0 : DI cX9_settleIfDue 0 (.aload_n 0) 1 1 := ⟨by decide +kernel, rfl⟩
theorem dX9_settleIfDue_1 : DI cX9_settleIfDue 1 (.getfield 200) 3 4 := ⟨by decide +kernel, rfl⟩
theorem dX9_settleIfDue_4 : DI cX9_settleIfDue 4 (.getfield 209) 3 7 := ⟨by decide +kernel, rfl⟩
theorem dX9_settleIfDue_7 : DI cX9_settleIfDue 7 (.aload_n 0) 1 8 := ⟨by decide +kernel, rfl⟩
theorem dX9_settleIfDue_8 : DI cX9_settleIfDue 8 (.getfield 200) 3 11 := ⟨by decide +kernel, rfl⟩
theorem dX9_settleIfDue_11 : DI cX9_settleIfDue 11 (.getfield 204) 3 14 := ⟨by decide +kernel, rfl⟩
theorem dX9_settleIfDue_14 : DB cX9_settleIfDue 14 (.if_icmp .lt 7) (7) 3 17 21 := ⟨by decide +kernel, rfl, by decide⟩
theorem dX9_settleIfDue_17 : DI cX9_settleIfDue 17 (.iconst 1) 1 18 := ⟨by decide +kernel, rfl⟩
theorem dX9_settleIfDue_18 : DB cX9_settleIfDue 18 (.goto 4) (4) 3 21 22 := ⟨by decide +kernel, rfl, by decide⟩
theorem dX9_settleIfDue_21 : DI cX9_settleIfDue 21 (.iconst 0) 1 22 := ⟨by decide +kernel, rfl⟩
theorem dX9_settleIfDue_22 : DI cX9_settleIfDue 22 (.istore_n 1) 1 23 := ⟨by decide +kernel, rfl⟩
theorem dX9_settleIfDue_23 : DI cX9_settleIfDue 23 (.aload_n 0) 1 24 := ⟨by decide +kernel, rfl⟩
theorem dX9_settleIfDue_24 : DI cX9_settleIfDue 24 (.getfield 174) 3 27 := ⟨by decide +kernel, rfl⟩
theorem dX9_settleIfDue_27 : DB cX9_settleIfDue 27 (.ifCond .eq 35) (35) 3 30 62 := ⟨by decide +kernel, rfl, by decide⟩
theorem dX9_settleIfDue_30 : DI cX9_settleIfDue 30 (.iload_n 1) 1 31 := ⟨by decide +kernel, rfl⟩
theorem dX9_settleIfDue_31 : DB cX9_settleIfDue 31 (.ifCond .eq 31) (31) 3 34 62 := ⟨by decide +kernel, rfl, by decide⟩
theorem dX9_settleIfDue_34 : DI cX9_settleIfDue 34 (.aload_n 0) 1 35 := ⟨by decide +kernel, rfl⟩
theorem dX9_settleIfDue_35 : DI cX9_settleIfDue 35 (.getfield 256) 3 38 := ⟨by decide +kernel, rfl⟩
theorem dX9_settleIfDue_38 : DB cX9_settleIfDue 38 (.ifCond .ne 24) (24) 3 41 62 := ⟨by decide +kernel, rfl, by decide⟩
theorem dX9_settleIfDue_41 : DI cX9_settleIfDue 41 (.aload_n 0) 1 42 := ⟨by decide +kernel, rfl⟩
theorem dX9_settleIfDue_42 : DI cX9_settleIfDue 42 (.iconst 1) 1 43 := ⟨by decide +kernel, rfl⟩
theorem dX9_settleIfDue_43 : DI cX9_settleIfDue 43 (.putfield 256) 3 46 := ⟨by decide +kernel, rfl⟩
theorem dX9_settleIfDue_46 : DI cX9_settleIfDue 46 (.aload_n 0) 1 47 := ⟨by decide +kernel, rfl⟩
theorem dX9_settleIfDue_47 : DI cX9_settleIfDue 47 (.invokevirtual 250) 3 50 := ⟨by decide +kernel, rfl⟩
theorem dX9_settleIfDue_50 : DI cX9_settleIfDue 50 (.istore_n 2) 1 51 := ⟨by decide +kernel, rfl⟩
theorem dX9_settleIfDue_51 : DI cX9_settleIfDue 51 (.aload_n 0) 1 52 := ⟨by decide +kernel, rfl⟩
theorem dX9_settleIfDue_52 : DI cX9_settleIfDue 52 (.iload_n 2) 1 53 := ⟨by decide +kernel, rfl⟩
theorem dX9_settleIfDue_53 : DI cX9_settleIfDue 53 (.iload_n 2) 1 54 := ⟨by decide +kernel, rfl⟩
theorem dX9_settleIfDue_54 : DI cX9_settleIfDue 54 (.bipush 95) 2 56 := ⟨by decide +kernel, rfl⟩
theorem dX9_settleIfDue_56 : DI cX9_settleIfDue 56 (.invokestatic 264) 3 59 := ⟨by decide +kernel, rfl⟩
theorem dX9_settleIfDue_59 : DI cX9_settleIfDue 59 (.invokestatic 268) 3 62 := ⟨by decide +kernel, rfl⟩
theorem dX9_settleIfDue_62 : DI cX9_settleIfDue 62 (.return_) 1 63 := ⟨by decide +kernel, rfl⟩
theorem dX9_owe_0 : DI cX9_owe 0 (.aload_n 0) 1 1 := ⟨by decide +kernel, rfl⟩
theorem dX9_owe_1 : DI cX9_owe 1 (.getfield 340) 3 4 := ⟨by decide +kernel, rfl⟩
theorem dX9_owe_4 : DI cX9_owe 4 (.dup) 1 5 := ⟨by decide +kernel, rfl⟩
theorem dX9_owe_5 : DI cX9_owe 5 (.getfield 272) 3 8 := ⟨by decide +kernel, rfl⟩
theorem dX9_owe_8 : DI cX9_owe 8 (.iload_n 1) 1 9 := ⟨by decide +kernel, rfl⟩
theorem dX9_owe_9 : DI cX9_owe 9 (.iadd) 1 10 := ⟨by decide +kernel, rfl⟩
theorem dX9_owe_10 : DI cX9_owe 10 (.putfield 272) 3 13 := ⟨by decide +kernel, rfl⟩
theorem dX9_owe_13 : DI cX9_owe 13 (.aload_n 0) 1 14 := ⟨by decide +kernel, rfl⟩
theorem dX9_owe_14 : DI cX9_owe 14 (.getfield 340) 3 17 := ⟨by decide +kernel, rfl⟩
theorem dX9_owe_17 : DI cX9_owe 17 (.getfield 388) 3 20 := ⟨by decide +kernel, rfl⟩
theorem dX9_owe_20 : DI cX9_owe 20 (.dup) 1 21 := ⟨by decide +kernel, rfl⟩
theorem dX9_owe_21 : DI cX9_owe 21 (.getfield 275) 3 24 := ⟨by decide +kernel, rfl⟩
theorem dX9_owe_24 : DI cX9_owe 24 (.iload_n 1) 1 25 := ⟨by decide +kernel, rfl⟩
theorem dX9_owe_25 : DI cX9_owe 25 (.iadd) 1 26 := ⟨by decide +kernel, rfl⟩
theorem dX9_owe_26 : DI cX9_owe 26 (.putfield 275) 3 29 := ⟨by decide +kernel, rfl⟩
theorem dX9_owe_29 : DI cX9_owe 29 (.aload_n 0) 1 30 := ⟨by decide +kernel, rfl⟩
theorem dX9_owe_30 : DI cX9_owe 30 (.invokevirtual 392) 3 33 := ⟨by decide +kernel, rfl⟩
theorem dX9_owe_33 : DB cX9_owe 33 (.ifCond .eq 35) (35) 3 36 68 := ⟨by decide +kernel, rfl, by decide⟩
theorem dX9_owe_36 : DI cX9_owe 36 (.aload_n 0) 1 37 := ⟨by decide +kernel, rfl⟩
theorem dX9_owe_37 : DI cX9_owe 37 (.getfield 340) 3 40 := ⟨by decide +kernel, rfl⟩
theorem dX9_owe_40 : DI cX9_owe 40 (.getfield 388) 3 43 := ⟨by decide +kernel, rfl⟩
theorem dX9_owe_43 : DI cX9_owe 43 (.dup) 1 44 := ⟨by decide +kernel, rfl⟩
theorem dX9_owe_44 : DI cX9_owe 44 (.getfield 275) 3 47 := ⟨by decide +kernel, rfl⟩
theorem dX9_owe_47 : DI cX9_owe 47 (.iload_n 2) 1 48 := ⟨by decide +kernel, rfl⟩
theorem dX9_owe_48 : DI cX9_owe 48 (.isub) 1 49 := ⟨by decide +kernel, rfl⟩
theorem dX9_owe_49 : DI cX9_owe 49 (.putfield 275) 3 52 := ⟨by decide +kernel, rfl⟩
theorem dX9_owe_52 : DI cX9_owe 52 (.aload_n 0) 1 53 := ⟨by decide +kernel, rfl⟩
theorem dX9_owe_53 : DI cX9_owe 53 (.getfield 186) 3 56 := ⟨by decide +kernel, rfl⟩
theorem dX9_owe_56 : DI cX9_owe 56 (.getfield 395) 3 59 := ⟨by decide +kernel, rfl⟩
theorem dX9_owe_59 : DI cX9_owe 59 (.dup) 1 60 := ⟨by decide +kernel, rfl⟩
theorem dX9_owe_60 : DI cX9_owe 60 (.getfield 275) 3 63 := ⟨by decide +kernel, rfl⟩
theorem dX9_owe_63 : DI cX9_owe 63 (.iload_n 2) 1 64 := ⟨by decide +kernel, rfl⟩
theorem dX9_owe_64 : DI cX9_owe 64 (.iadd) 1 65 := ⟨by decide +kernel, rfl⟩
theorem dX9_owe_65 : DI cX9_owe 65 (.putfield 275) 3 68 := ⟨by decide +kernel, rfl⟩
theorem dX9_owe_68 : DI cX9_owe 68 (.return_) 1 69 := ⟨by decide +kernel, rfl⟩
theorem dX9_partOf_0 : DI cX9_partOf 0 (.iload_n 0) 1 1 := ⟨by decide +kernel, rfl⟩
theorem dX9_partOf_1 : DI cX9_partOf 1 (.i2l) 1 2 := ⟨by decide +kernel, rfl⟩
theorem dX9_partOf_2 : DI cX9_partOf 2 (.iload_n 1) 1 3 := ⟨by decide +kernel, rfl⟩
theorem dX9_partOf_3 : DI cX9_partOf 3 (.i2l) 1 4 := ⟨by decide +kernel, rfl⟩
theorem dX9_partOf_4 : DI cX9_partOf 4 (.lmul) 1 5 := ⟨by decide +kernel, rfl⟩
theorem dX9_partOf_5 : DI cX9_partOf 5 (.ldc2_w 396) 3 8 := ⟨by decide +kernel, rfl⟩
theorem dX9_partOf_8 : DI cX9_partOf 8 (.ldiv) 1 9 := ⟨by decide +kernel, rfl⟩
theorem dX9_partOf_9 : DI cX9_partOf 9 (.l2i) 1 10 := ⟨by decide +kernel, rfl⟩
theorem dX9_partOf_10 : DI cX9_partOf 10 (.ireturn) 1 11 := ⟨by decide +kernel, rfl⟩
theorem dX10_init_0 : DI cX10_init 0 (.aload_n 0) 1 1 := ⟨by decide +kernel, rfl⟩
theorem dX10_init_1 : DI cX10_init 1 (.invokespecial 1) 3 4 := ⟨by decide +kernel, rfl⟩
theorem dX10_init_4 : DI cX10_init 4 (.aload_n 0) 1 5 := ⟨by decide +kernel, rfl⟩
theorem dX10_init_5 : DI cX10_init 5 (.sipush 10000) 3 8 := ⟨by decide +kernel, rfl⟩
theorem dX10_init_8 : DI cX10_init 8 (.putfield 7) 3 11 := ⟨by decide +kernel, rfl⟩
theorem dX10_init_11 : DI cX10_init 11 (.aload_n 0) 1 12 := ⟨by decide +kernel, rfl⟩
theorem dX10_init_12 : DI cX10_init 12 (.bipush 20) 2 14 := ⟨by decide +kernel, rfl⟩
theorem dX10_init_14 : DI cX10_init 14 (.putfield 13) 3 17 := ⟨by decide +kernel, rfl⟩
theorem dX10_init_17 : DI cX10_init 17 (.aload_n 0) 1 18 := ⟨by decide +kernel, rfl⟩
theorem dX10_init_18 : DI cX10_init 18 (.bipush 8) 2 20 := ⟨by decide +kernel, rfl⟩
theorem dX10_init_20 : DI cX10_init 20 (.newarray .int) 2 22 := ⟨by decide +kernel, rfl⟩
theorem dX10_init_22 : DI cX10_init 22 (.putfield 16) 3 25 := ⟨by decide +kernel, rfl⟩
theorem dX10_init_25 : DI cX10_init 25 (.aload_n 0) 1 26 := ⟨by decide +kernel, rfl⟩
theorem dX10_init_26 : DI cX10_init 26 (.bipush 8) 2 28 := ⟨by decide +kernel, rfl⟩
theorem dX10_init_28 : DI cX10_init 28 (.newarray .int) 2 30 := ⟨by decide +kernel, rfl⟩
theorem dX10_init_30 : DI cX10_init 30 (.putfield 20) 3 33 := ⟨by decide +kernel, rfl⟩
theorem dX10_init_33 : DI cX10_init 33 (.aload_n 0) 1 34 := ⟨by decide +kernel, rfl⟩
theorem dX10_init_34 : DI cX10_init 34 (.bipush 8) 2 36 := ⟨by decide +kernel, rfl⟩
theorem dX10_init_36 : DI cX10_init 36 (.newarray .boolean) 2 38 := ⟨by decide +kernel, rfl⟩
theorem dX10_init_38 : DI cX10_init 38 (.putfield 23) 3 41 := ⟨by decide +kernel, rfl⟩
theorem dX10_init_41 : DI cX10_init 41 (.aload_n 0) 1 42 := ⟨by decide +kernel, rfl⟩
theorem dX10_init_42 : DI cX10_init 42 (.bipush 8) 2 44 := ⟨by decide +kernel, rfl⟩
theorem dX10_init_44 : DI cX10_init 44 (.newarray .boolean) 2 46 := ⟨by decide +kernel, rfl⟩
theorem dX10_init_46 : DI cX10_init 46 (.putfield 27) 3 49 := ⟨by decide +kernel, rfl⟩
theorem dX10_init_49 : DI cX10_init 49 (.aload_n 0) 1 50 := ⟨by decide +kernel, rfl⟩
theorem dX10_init_50 : DI cX10_init 50 (.bipush 8) 2 52 := ⟨by decide +kernel, rfl⟩
theorem dX10_init_52 : DI cX10_init 52 (.newarray .int) 2 54 := ⟨by decide +kernel, rfl⟩
theorem dX10_init_54 : DI cX10_init 54 (.putfield 30) 3 57 := ⟨by decide +kernel, rfl⟩
theorem dX10_init_57 : DI cX10_init 57 (.aload_n 0) 1 58 := ⟨by decide +kernel, rfl⟩
theorem dX10_init_58 : DI cX10_init 58 (.bipush 8) 2 60 := ⟨by decide +kernel, rfl⟩
theorem dX10_init_60 : DI cX10_init 60 (.newarray .int) 2 62 := ⟨by decide +kernel, rfl⟩
theorem dX10_init_62 : DI cX10_init 62 (.putfield 33) 3 65 := ⟨by decide +kernel, rfl⟩
theorem dX10_init_65 : DI cX10_init 65 (.aload_n 0) 1 66 := ⟨by decide +kernel, rfl⟩
theorem dX10_init_66 : DI cX10_init 66 (.bipush 12) 2 68 := ⟨by decide +kernel, rfl⟩
theorem dX10_init_68 : DI cX10_init 68 (.newarray .int) 2 70 := ⟨by decide +kernel, rfl⟩
theorem dX10_init_70 : DI cX10_init 70 (.putfield 36) 3 73 := ⟨by decide +kernel, rfl⟩
theorem dX10_init_73 : DI cX10_init 73 (.aload_n 0) 1 74 := ⟨by decide +kernel, rfl⟩
theorem dX10_init_74 : DI cX10_init 74 (.bipush 12) 2 76 := ⟨by decide +kernel, rfl⟩
theorem dX10_init_76 : DI cX10_init 76 (.newarray .int) 2 78 := ⟨by decide +kernel, rfl⟩
theorem dX10_init_78 : DI cX10_init 78 (.putfield 39) 3 81 := ⟨by decide +kernel, rfl⟩
theorem dX10_init_81 : DI cX10_init 81 (.aload_n 0) 1 82 := ⟨by decide +kernel, rfl⟩
theorem dX10_init_82 : DI cX10_init 82 (.bipush 12) 2 84 := ⟨by decide +kernel, rfl⟩
theorem dX10_init_84 : DI cX10_init 84 (.newarray .int) 2 86 := ⟨by decide +kernel, rfl⟩
theorem dX10_init_86 : DI cX10_init 86 (.putfield 42) 3 89 := ⟨by decide +kernel, rfl⟩
theorem dX10_init_89 : DI cX10_init 89 (.aload_n 0) 1 90 := ⟨by decide +kernel, rfl⟩
theorem dX10_init_90 : DI cX10_init 90 (.bipush 12) 2 92 := ⟨by decide +kernel, rfl⟩
theorem dX10_init_92 : DI cX10_init 92 (.newarray .int) 2 94 := ⟨by decide +kernel, rfl⟩
theorem dX10_init_94 : DI cX10_init 94 (.putfield 45) 3 97 := ⟨by decide +kernel, rfl⟩
theorem dX10_init_97 : DI cX10_init 97 (.aload_n 0) 1 98 := ⟨by decide +kernel, rfl⟩
theorem dX10_init_98 : DI cX10_init 98 (.bipush 12) 2 100 := ⟨by decide +kernel, rfl⟩
theorem dX10_init_100 : DI cX10_init 100 (.newarray .int) 2 102 := ⟨by decide +kernel, rfl⟩
theorem dX10_init_102 : DI cX10_init 102 (.putfield 48) 3 105 := ⟨by decide +kernel, rfl⟩
theorem dX10_init_105 : DI cX10_init 105 (.aload_n 0) 1 106 := ⟨by decide +kernel, rfl⟩
theorem dX10_init_106 : DI cX10_init 106 (.bipush 12) 2 108 := ⟨by decide +kernel, rfl⟩
theorem dX10_init_108 : DI cX10_init 108 (.newarray .boolean) 2 110 := ⟨by decide +kernel, rfl⟩
theorem dX10_init_110 : DI cX10_init 110 (.putfield 51) 3 113 := ⟨by decide +kernel, rfl⟩
theorem dX10_init_113 : DI cX10_init 113 (.aload_n 0) 1 114 := ⟨by decide +kernel, rfl⟩
theorem dX10_init_114 : DI cX10_init 114 (.bipush 12) 2 116 := ⟨by decide +kernel, rfl⟩
theorem dX10_init_116 : DI cX10_init 116 (.newarray .boolean) 2 118 := ⟨by decide +kernel, rfl⟩
theorem dX10_init_118 : DI cX10_init 118 (.putfield 54) 3 121 := ⟨by decide +kernel, rfl⟩
theorem dX10_init_121 : DI cX10_init 121 (.aload_n 0) 1 122 := ⟨by decide +kernel, rfl⟩
theorem dX10_init_122 : DI cX10_init 122 (.bipush 12) 2 124 := ⟨by decide +kernel, rfl⟩
theorem dX10_init_124 : DI cX10_init 124 (.newarray .int) 2 126 := ⟨by decide +kernel, rfl⟩
theorem dX10_init_126 : DI cX10_init 126 (.putfield 57) 3 129 := ⟨by decide +kernel, rfl⟩
theorem dX10_init_129 : DI cX10_init 129 (.aload_n 0) 1 130 := ⟨by decide +kernel, rfl⟩
theorem dX10_init_130 : DI cX10_init 130 (.bipush 12) 2 132 := ⟨by decide +kernel, rfl⟩
theorem dX10_init_132 : DI cX10_init 132 (.newarray .int) 2 134 := ⟨by decide +kernel, rfl⟩
theorem dX10_init_134 : DI cX10_init 134 (.putfield 60) 3 137 := ⟨by decide +kernel, rfl⟩
theorem dX10_init_137 : DI cX10_init 137 (.aload_n 0) 1 138 := ⟨by decide +kernel, rfl⟩
theorem dX10_init_138 : DI cX10_init 138 (.sipush 160) 3 141 := ⟨by decide +kernel, rfl⟩
theorem dX10_init_141 : DI cX10_init 141 (.newarray .int) 2 143 := ⟨by decide +kernel, rfl⟩
theorem dX10_init_143 : DI cX10_init 143 (.putfield 63) 3 146 := ⟨by decide +kernel, rfl⟩
theorem dX10_init_146 : DI cX10_init 146 (.aload_n 0) 1 147 := ⟨by decide +kernel, rfl⟩
theorem dX10_init_147 : DI cX10_init 147 (.bipush 9) 2 149 := ⟨by decide +kernel, rfl⟩
theorem dX10_init_149 : DI cX10_init 149 (.newarray .int) 2 151 := ⟨by decide +kernel, rfl⟩
theorem dX10_init_151 : DI cX10_init 151 (.putfield 66) 3 154 := ⟨by decide +kernel, rfl⟩
theorem dX10_init_154 : DI cX10_init 154 (.aload_n 0) 1 155 := ⟨by decide +kernel, rfl⟩
theorem dX10_init_155 : DI cX10_init 155 (.bipush 8) 2 157 := ⟨by decide +kernel, rfl⟩
theorem dX10_init_157 : DI cX10_init 157 (.newarray .int) 2 159 := ⟨by decide +kernel, rfl⟩
theorem dX10_init_159 : DI cX10_init 159 (.putfield 69) 3 162 := ⟨by decide +kernel, rfl⟩
theorem dX10_init_162 : DI cX10_init 162 (.aload_n 0) 1 163 := ⟨by decide +kernel, rfl⟩
theorem dX10_init_163 : DI cX10_init 163 (.sipush 12000) 3 166 := ⟨by decide +kernel, rfl⟩
theorem dX10_init_166 : DI cX10_init 166 (.newarray .int) 2 168 := ⟨by decide +kernel, rfl⟩
theorem dX10_init_168 : DI cX10_init 168 (.putfield 72) 3 171 := ⟨by decide +kernel, rfl⟩
theorem dX10_init_171 : DI cX10_init 171 (.aload_n 0) 1 172 := ⟨by decide +kernel, rfl⟩
theorem dX10_init_172 : DI cX10_init 172 (.sipush 12000) 3 175 := ⟨by decide +kernel, rfl⟩
theorem dX10_init_175 : DI cX10_init 175 (.newarray .int) 2 177 := ⟨by decide +kernel, rfl⟩
theorem dX10_init_177 : DI cX10_init 177 (.putfield 75) 3 180 := ⟨by decide +kernel, rfl⟩
theorem dX10_init_180 : DI cX10_init 180 (.aload_n 0) 1 181 := ⟨by decide +kernel, rfl⟩
theorem dX10_init_181 : DI cX10_init 181 (.sipush 12000) 3 184 := ⟨by decide +kernel, rfl⟩
theorem dX10_init_184 : DI cX10_init 184 (.newarray .int) 2 186 := ⟨by decide +kernel, rfl⟩
theorem dX10_init_186 : DI cX10_init 186 (.putfield 78) 3 189 := ⟨by decide +kernel, rfl⟩
theorem dX10_init_189 : DI cX10_init 189 (.aload_n 0) 1 190 := ⟨by decide +kernel, rfl⟩
theorem dX10_init_190 : DI cX10_init 190 (.bipush 40) 2 192 := ⟨by decide +kernel, rfl⟩
theorem dX10_init_192 : DI cX10_init 192 (.newarray .int) 2 194 := ⟨by decide +kernel, rfl⟩
theorem dX10_init_194 : DI cX10_init 194 (.putfield 81) 3 197 := ⟨by decide +kernel, rfl⟩
theorem dX10_init_197 : DI cX10_init 197 (.aload_n 0) 1 198 := ⟨by decide +kernel, rfl⟩
theorem dX10_init_198 : DI cX10_init 198 (.bipush 40) 2 200 := ⟨by decide +kernel, rfl⟩
theorem dX10_init_200 : DI cX10_init 200 (.newarray .int) 2 202 := ⟨by decide +kernel, rfl⟩
theorem dX10_init_202 : DI cX10_init 202 (.putfield 84) 3 205 := ⟨by decide +kernel, rfl⟩
theorem dX10_init_205 : DI cX10_init 205 (.aload_n 0) 1 206 := ⟨by decide +kernel, rfl⟩
theorem dX10_init_206 : DI cX10_init 206 (.bipush 40) 2 208 := ⟨by decide +kernel, rfl⟩
theorem dX10_init_208 : DI cX10_init 208 (.newarray .int) 2 210 := ⟨by decide +kernel, rfl⟩
theorem dX10_init_210 : DI cX10_init 210 (.putfield 87) 3 213 := ⟨by decide +kernel, rfl⟩
theorem dX10_init_213 : DI cX10_init 213 (.aload_n 0) 1 214 := ⟨by decide +kernel, rfl⟩
theorem dX10_init_214 : DI cX10_init 214 (.bipush 40) 2 216 := ⟨by decide +kernel, rfl⟩
theorem dX10_init_216 : DI cX10_init 216 (.newarray .int) 2 218 := ⟨by decide +kernel, rfl⟩
theorem dX10_init_218 : DI cX10_init 218 (.putfield 90) 3 221 := ⟨by decide +kernel, rfl⟩
theorem dX10_init_221 : DI cX10_init 221 (.aload_n 0) 1 222 := ⟨by decide +kernel, rfl⟩
theorem dX10_init_222 : DI cX10_init 222 (.bipush 40) 2 224 := ⟨by decide +kernel, rfl⟩
theorem dX10_init_224 : DI cX10_init 224 (.newarray .int) 2 226 := ⟨by decide +kernel, rfl⟩
theorem dX10_init_226 : DI cX10_init 226 (.putfield 93) 3 229 := ⟨by decide +kernel, rfl⟩
theorem dX10_init_229 : DI cX10_init 229 (.aload_n 0) 1 230 := ⟨by decide +kernel, rfl⟩
theorem dX10_init_230 : DI cX10_init 230 (.bipush 40) 2 232 := ⟨by decide +kernel, rfl⟩
theorem dX10_init_232 : DI cX10_init 232 (.newarray .int) 2 234 := ⟨by decide +kernel, rfl⟩
theorem dX10_init_234 : DI cX10_init 234 (.putfield 96) 3 237 := ⟨by decide +kernel, rfl⟩
theorem dX10_init_237 : DI cX10_init 237 (.aload_n 0) 1 238 := ⟨by decide +kernel, rfl⟩
theorem dX10_init_238 : DI cX10_init 238 (.bipush 40) 2 240 := ⟨by decide +kernel, rfl⟩
theorem dX10_init_240 : DI cX10_init 240 (.newarray .int) 2 242 := ⟨by decide +kernel, rfl⟩
theorem dX10_init_242 : DI cX10_init 242 (.putfield 99) 3 245 := ⟨by decide +kernel, rfl⟩
theorem dX10_init_245 : DI cX10_init 245 (.aload_n 0) 1 246 := ⟨by decide +kernel, rfl⟩
theorem dX10_init_246 : DI cX10_init 246 (.bipush 40) 2 248 := ⟨by decide +kernel, rfl⟩
theorem dX10_init_248 : DI cX10_init 248 (.newarray .int) 2 250 := ⟨by decide +kernel, rfl⟩
theorem dX10_init_250 : DI cX10_init 250 (.putfield 102) 3 253 := ⟨by decide +kernel, rfl⟩
theorem dX10_init_253 : DI cX10_init 253 (.aload_n 0) 1 254 := ⟨by decide +kernel, rfl⟩
theorem dX10_init_254 : DI cX10_init 254 (.bipush 40) 2 256 := ⟨by decide +kernel, rfl⟩
theorem dX10_init_256 : DI cX10_init 256 (.newarray .int) 2 258 := ⟨by decide +kernel, rfl⟩
theorem dX10_init_258 : DI cX10_init 258 (.putfield 105) 3 261 := ⟨by decide +kernel, rfl⟩
theorem dX10_init_261 : DI cX10_init 261 (.aload_n 0) 1 262 := ⟨by decide +kernel, rfl⟩
theorem dX10_init_262 : DI cX10_init 262 (.bipush 40) 2 264 := ⟨by decide +kernel, rfl⟩
theorem dX10_init_264 : DI cX10_init 264 (.newarray .int) 2 266 := ⟨by decide +kernel, rfl⟩
theorem dX10_init_266 : DI cX10_init 266 (.putfield 108) 3 269 := ⟨by decide +kernel, rfl⟩
theorem dX10_init_269 : DI cX10_init 269 (.aload_n 0) 1 270 := ⟨by decide +kernel, rfl⟩
theorem dX10_init_270 : DI cX10_init 270 (.bipush 40) 2 272 := ⟨by decide +kernel, rfl⟩
theorem dX10_init_272 : DI cX10_init 272 (.newarray .int) 2 274 := ⟨by decide +kernel, rfl⟩
theorem dX10_init_274 : DI cX10_init 274 (.putfield 111) 3 277 := ⟨by decide +kernel, rfl⟩
theorem dX10_init_277 : DI cX10_init 277 (.aload_n 0) 1 278 := ⟨by decide +kernel, rfl⟩
theorem dX10_init_278 : DI cX10_init 278 (.bipush 40) 2 280 := ⟨by decide +kernel, rfl⟩
theorem dX10_init_280 : DI cX10_init 280 (.newarray .int) 2 282 := ⟨by decide +kernel, rfl⟩
theorem dX10_init_282 : DI cX10_init 282 (.putfield 114) 3 285 := ⟨by decide +kernel, rfl⟩
theorem dX10_init_285 : DI cX10_init 285 (.aload_n 0) 1 286 := ⟨by decide +kernel, rfl⟩
theorem dX10_init_286 : DI cX10_init 286 (.bipush 40) 2 288 := ⟨by decide +kernel, rfl⟩
theorem dX10_init_288 : DI cX10_init 288 (.newarray .int) 2 290 := ⟨by decide +kernel, rfl⟩
theorem dX10_init_290 : DI cX10_init 290 (.putfield 117) 3 293 := ⟨by decide +kernel, rfl⟩
theorem dX10_init_293 : DI cX10_init 293 (.aload_n 0) 1 294 := ⟨by decide +kernel, rfl⟩
theorem dX10_init_294 : DI cX10_init 294 (.bipush 40) 2 296 := ⟨by decide +kernel, rfl⟩
theorem dX10_init_296 : DI cX10_init 296 (.newarray .int) 2 298 := ⟨by decide +kernel, rfl⟩
theorem dX10_init_298 : DI cX10_init 298 (.putfield 120) 3 301 := ⟨by decide +kernel, rfl⟩
theorem dX10_init_301 : DI cX10_init 301 (.aload_n 0) 1 302 := ⟨by decide +kernel, rfl⟩
theorem dX10_init_302 : DI cX10_init 302 (.bipush 40) 2 304 := ⟨by decide +kernel, rfl⟩
theorem dX10_init_304 : DI cX10_init 304 (.newarray .int) 2 306 := ⟨by decide +kernel, rfl⟩
theorem dX10_init_306 : DI cX10_init 306 (.putfield 123) 3 309 := ⟨by decide +kernel, rfl⟩
theorem dX10_init_309 : DI cX10_init 309 (.aload_n 0) 1 310 := ⟨by decide +kernel, rfl⟩
theorem dX10_init_310 : DI cX10_init 310 (.bipush 40) 2 312 := ⟨by decide +kernel, rfl⟩
theorem dX10_init_312 : DI cX10_init 312 (.newarray .int) 2 314 := ⟨by decide +kernel, rfl⟩
theorem dX10_init_314 : DI cX10_init 314 (.putfield 126) 3 317 := ⟨by decide +kernel, rfl⟩
theorem dX10_init_317 : DI cX10_init 317 (.aload_n 0) 1 318 := ⟨by decide +kernel, rfl⟩
theorem dX10_init_318 : DI cX10_init 318 (.bipush 40) 2 320 := ⟨by decide +kernel, rfl⟩
theorem dX10_init_320 : DI cX10_init 320 (.newarray .boolean) 2 322 := ⟨by decide +kernel, rfl⟩
theorem dX10_init_322 : DI cX10_init 322 (.putfield 129) 3 325 := ⟨by decide +kernel, rfl⟩
theorem dX10_init_325 : DI cX10_init 325 (.aload_n 0) 1 326 := ⟨by decide +kernel, rfl⟩
theorem dX10_init_326 : DI cX10_init 326 (.bipush 40) 2 328 := ⟨by decide +kernel, rfl⟩
theorem dX10_init_328 : DI cX10_init 328 (.newarray .int) 2 330 := ⟨by decide +kernel, rfl⟩
theorem dX10_init_330 : DI cX10_init 330 (.putfield 132) 3 333 := ⟨by decide +kernel, rfl⟩
theorem dX10_init_333 : DI cX10_init 333 (.aload_n 0) 1 334 := ⟨by decide +kernel, rfl⟩
theorem dX10_init_334 : DI cX10_init 334 (.bipush 40) 2 336 := ⟨by decide +kernel, rfl⟩
theorem dX10_init_336 : DI cX10_init 336 (.newarray .int) 2 338 := ⟨by decide +kernel, rfl⟩
theorem dX10_init_338 : DI cX10_init 338 (.putfield 135) 3 341 := ⟨by decide +kernel, rfl⟩
theorem dX10_init_341 : DI cX10_init 341 (.iconst 0) 1 342 := ⟨by decide +kernel, rfl⟩
theorem dX10_init_342 : DI cX10_init 342 (.istore_n 1) 1 343 := ⟨by decide +kernel, rfl⟩
theorem dX10_init_343 : DI cX10_init 343 (.iload_n 1) 1 344 := ⟨by decide +kernel, rfl⟩
theorem dX10_init_344 : DI cX10_init 344 (.bipush 8) 2 346 := ⟨by decide +kernel, rfl⟩
theorem dX10_init_346 : DB cX10_init 346 (.if_icmp .ge 16) (16) 3 349 362 := ⟨by decide +kernel, rfl, by decide⟩
theorem dX10_init_349 : DI cX10_init 349 (.aload_n 0) 1 350 := ⟨by decide +kernel, rfl⟩
theorem dX10_init_350 : DI cX10_init 350 (.getfield 33) 3 353 := ⟨by decide +kernel, rfl⟩
theorem dX10_init_353 : DI cX10_init 353 (.iload_n 1) 1 354 := ⟨by decide +kernel, rfl⟩
theorem dX10_init_354 : DI cX10_init 354 (.iconst (-1)) 1 355 := ⟨by decide +kernel, rfl⟩
theorem dX10_init_355 : DI cX10_init 355 (.iastore) 1 356 := ⟨by decide +kernel, rfl⟩
theorem dX10_init_356 : DI cX10_init 356 (.iinc 1 1) 3 359 := ⟨by decide +kernel, rfl⟩
theorem dX10_init_359 : DB cX10_init 359 (.goto (-16)) (-16) 3 362 343 := ⟨by decide +kernel, rfl, by decide⟩
theorem dX10_init_362 : DI cX10_init 362 (.return_) 1 363 := ⟨by decide +kernel, rfl⟩
theorem dX10_thrown_0 : DI cX10_thrown 0 (.aload_n 0) 1 1 := ⟨by decide +kernel, rfl⟩
theorem dX10_thrown_1 : DI cX10_thrown 1 (.getfield 138) 3 4 := ⟨by decide +kernel, rfl⟩
theorem dX10_thrown_4 : DI cX10_thrown 4 (.ireturn) 1 5 := ⟨by decide +kernel, rfl⟩
theorem dX10_stop_0 : DI cX10_stop 0 (.aload_n 0) 1 1 := ⟨by decide +kernel, rfl⟩
theorem dX10_stop_1 : DI cX10_stop 1 (.iload_n 1) 1 2 := ⟨by decide +kernel, rfl⟩
theorem dX10_stop_2 : DI cX10_stop 2 (.putfield 138) 3 5 := ⟨by decide +kernel, rfl⟩
theorem dX10_stop_5 : DI cX10_stop 5 (.iconst 0) 1 6 := ⟨by decide +kernel, rfl⟩
theorem dX10_stop_6 : DI cX10_stop 6 (.ireturn) 1 7 := ⟨by decide +kernel, rfl⟩
theorem dX10_refuse_0 : DI cX10_refuse 0 (.aload_n 0) 1 1 := ⟨by decide +kernel, rfl⟩
theorem dX10_refuse_1 : DI cX10_refuse 1 (.iload_n 1) 1 2 := ⟨by decide +kernel, rfl⟩
theorem dX10_refuse_2 : DI cX10_refuse 2 (.putfield 138) 3 5 := ⟨by decide +kernel, rfl⟩
theorem dX10_refuse_5 : DI cX10_refuse 5 (.iconst 0) 1 6 := ⟨by decide +kernel, rfl⟩
theorem dX10_refuse_6 : DI cX10_refuse 6 (.ireturn) 1 7 := ⟨by decide +kernel, rfl⟩
theorem dX10_in_0 : DI cX10_in 0 (.iload_n 0) 1 1 := ⟨by decide +kernel, rfl⟩
theorem dX10_in_1 : DI cX10_in 1 (.iload_n 1) 1 2 := ⟨by decide +kernel, rfl⟩
theorem dX10_in_2 : DB cX10_in 2 (.if_icmp .lt 12) (12) 3 5 14 := ⟨by decide +kernel, rfl, by decide⟩
theorem dX10_in_5 : DI cX10_in 5 (.iload_n 0) 1 6 := ⟨by decide +kernel, rfl⟩
theorem dX10_in_6 : DI cX10_in 6 (.iload_n 2) 1 7 := ⟨by decide +kernel, rfl⟩
theorem dX10_in_7 : DB cX10_in 7 (.if_icmp .gt 7) (7) 3 10 14 := ⟨by decide +kernel, rfl, by decide⟩
theorem dX10_in_10 : DI cX10_in 10 (.iconst 1) 1 11 := ⟨by decide +kernel, rfl⟩
theorem dX10_in_11 : DB cX10_in 11 (.goto 4) (4) 3 14 15 := ⟨by decide +kernel, rfl, by decide⟩
theorem dX10_in_14 : DI cX10_in 14 (.iconst 0) 1 15 := ⟨by decide +kernel, rfl⟩
theorem dX10_in_15 : DI cX10_in 15 (.ireturn) 1 16 := ⟨by decide +kernel, rfl⟩
theorem dX10_isFirm_0 : DI cX10_isFirm 0 (.iload_n 0) 1 1 := ⟨by decide +kernel, rfl⟩
theorem dX10_isFirm_1 : DI cX10_isFirm 1 (.iconst 0) 1 2 := ⟨by decide +kernel, rfl⟩
theorem dX10_isFirm_2 : DI cX10_isFirm 2 (.iconst 2) 1 3 := ⟨by decide +kernel, rfl⟩
theorem dX10_isFirm_3 : DI cX10_isFirm 3 (.invokestatic 141) 3 6 := ⟨by decide +kernel, rfl⟩
theorem dX10_isFirm_6 : DI cX10_isFirm 6 (.ireturn) 1 7 := ⟨by decide +kernel, rfl⟩
theorem dX10_isSocket_0 : DI cX10_isSocket 0 (.iload_n 1) 1 1 := ⟨by decide +kernel, rfl⟩
theorem dX10_isSocket_1 : DI cX10_isSocket 1 (.iconst 0) 1 2 := ⟨by decide +kernel, rfl⟩
theorem dX10_isSocket_2 : DI cX10_isSocket 2 (.aload_n 0) 1 3 := ⟨by decide +kernel, rfl⟩
theorem dX10_isSocket_3 : DI cX10_isSocket 3 (.getfield 145) 3 6 := ⟨by decide +kernel, rfl⟩
theorem dX10_isSocket_6 : DI cX10_isSocket 6 (.iconst 1) 1 7 := ⟨by decide +kernel, rfl⟩
theorem dX10_isSocket_7 : DI cX10_isSocket 7 (.isub) 1 8 := ⟨by decide +kernel, rfl⟩
theorem dX10_isSocket_8 : DI cX10_isSocket 8 (.invokestatic 141) 3 11 := ⟨by decide +kernel, rfl⟩
theorem dX10_isSocket_11 : DI cX10_isSocket 11 (.ireturn) 1 12 := ⟨by decide +kernel, rfl⟩
theorem dX10_isCard_0 : DI cX10_isCard 0 (.iload_n 1) 1 1 := ⟨by decide +kernel, rfl⟩
theorem dX10_isCard_1 : DI cX10_isCard 1 (.iconst 0) 1 2 := ⟨by decide +kernel, rfl⟩
theorem dX10_isCard_2 : DI cX10_isCard 2 (.aload_n 0) 1 3 := ⟨by decide +kernel, rfl⟩
theorem dX10_isCard_3 : DI cX10_isCard 3 (.getfield 148) 3 6 := ⟨by decide +kernel, rfl⟩
theorem dX10_isCard_6 : DI cX10_isCard 6 (.iconst 1) 1 7 := ⟨by decide +kernel, rfl⟩
theorem dX10_isCard_7 : DI cX10_isCard 7 (.isub) 1 8 := ⟨by decide +kernel, rfl⟩
theorem dX10_isCard_8 : DI cX10_isCard 8 (.invokestatic 141) 3 11 := ⟨by decide +kernel, rfl⟩
theorem dX10_isCard_11 : DI cX10_isCard 11 (.ireturn) 1 12 := ⟨by decide +kernel, rfl⟩
theorem dX10_isSession_0 : DI cX10_isSession 0 (.iload_n 1) 1 1 := ⟨by decide +kernel, rfl⟩
theorem dX10_isSession_1 : DI cX10_isSession 1 (.iconst 0) 1 2 := ⟨by decide +kernel, rfl⟩
theorem dX10_isSession_2 : DI cX10_isSession 2 (.aload_n 0) 1 3 := ⟨by decide +kernel, rfl⟩
theorem dX10_isSession_3 : DI cX10_isSession 3 (.getfield 151) 3 6 := ⟨by decide +kernel, rfl⟩
theorem dX10_isSession_6 : DI cX10_isSession 6 (.iconst 1) 1 7 := ⟨by decide +kernel, rfl⟩
theorem dX10_isSession_7 : DI cX10_isSession 7 (.isub) 1 8 := ⟨by decide +kernel, rfl⟩
theorem dX10_isSession_8 : DI cX10_isSession 8 (.invokestatic 141) 3 11 := ⟨by decide +kernel, rfl⟩
theorem dX10_isSession_11 : DI cX10_isSession 11 (.ireturn) 1 12 := ⟨by decide +kernel, rfl⟩
theorem dX10_socket_0 : DI cX10_socket 0 (.aload_n 0) 1 1 := ⟨by decide +kernel, rfl⟩
theorem dX10_socket_1 : DI cX10_socket 1 (.iconst 0) 1 2 := ⟨by decide +kernel, rfl⟩
theorem dX10_socket_2 : DI cX10_socket 2 (.putfield 138) 3 5 := ⟨by decide +kernel, rfl⟩
theorem dX10_socket_5 : DI cX10_socket 5 (.iload_n 1) 1 6 := ⟨by decide +kernel, rfl⟩
theorem dX10_socket_6 : DI cX10_socket 6 (.invokestatic 154) 3 9 := ⟨by decide +kernel, rfl⟩
theorem dX10_socket_9 : DB cX10_socket 9 (.ifCond .ne 9) (9) 3 12 18 := ⟨by decide +kernel, rfl, by decide⟩
theorem dX10_socket_12 : DI cX10_socket 12 (.aload_n 0) 1 13 := ⟨by decide +kernel, rfl⟩
theorem dX10_socket_13 : DI cX10_socket 13 (.iconst 1) 1 14 := ⟨by decide +kernel, rfl⟩
theorem dX10_socket_14 : DI cX10_socket 14 (.invokevirtual 158) 3 17 := ⟨by decide +kernel, rfl⟩
theorem dX10_socket_17 : DI cX10_socket 17 (.ireturn) 1 18 := ⟨by decide +kernel, rfl⟩
theorem dX10_socket_18 : DI cX10_socket 18 (.iload_n 2) 1 19 := ⟨by decide +kernel, rfl⟩
theorem dX10_socket_19 : DI cX10_socket 19 (.sipush 1400) 3 22 := ⟨by decide +kernel, rfl⟩
theorem dX10_socket_22 : DI cX10_socket 22 (.ldc 162) 2 24 := ⟨by decide +kernel, rfl⟩
theorem dX10_socket_24 : DI cX10_socket 24 (.invokestatic 141) 3 27 := ⟨by decide +kernel, rfl⟩
theorem dX10_socket_27 : DB cX10_socket 27 (.ifCond .ne 9) (9) 3 30 36 := ⟨by decide +kernel, rfl, by decide⟩
theorem dX10_socket_30 : DI cX10_socket 30 (.aload_n 0) 1 31 := ⟨by decide +kernel, rfl⟩
theorem dX10_socket_31 : DI cX10_socket 31 (.iconst 2) 1 32 := ⟨by decide +kernel, rfl⟩
theorem dX10_socket_32 : DI cX10_socket 32 (.invokevirtual 158) 3 35 := ⟨by decide +kernel, rfl⟩
theorem dX10_socket_35 : DI cX10_socket 35 (.ireturn) 1 36 := ⟨by decide +kernel, rfl⟩
theorem dX10_socket_36 : DI cX10_socket 36 (.aload_n 0) 1 37 := ⟨by decide +kernel, rfl⟩
theorem dX10_socket_37 : DI cX10_socket 37 (.getfield 145) 3 40 := ⟨by decide +kernel, rfl⟩
theorem dX10_socket_40 : DI cX10_socket 40 (.bipush 8) 2 42 := ⟨by decide +kernel, rfl⟩
theorem dX10_socket_42 : DB cX10_socket 42 (.if_icmp .ne 9) (9) 3 45 51 := ⟨by decide +kernel, rfl, by decide⟩
theorem dX10_socket_45 : DI cX10_socket 45 (.aload_n 0) 1 46 := ⟨by decide +kernel, rfl⟩
theorem dX10_socket_46 : DI cX10_socket 46 (.iconst 3) 1 47 := ⟨by decide +kernel, rfl⟩
theorem dX10_socket_47 : DI cX10_socket 47 (.invokevirtual 158) 3 50 := ⟨by decide +kernel, rfl⟩
theorem dX10_socket_50 : DI cX10_socket 50 (.ireturn) 1 51 := ⟨by decide +kernel, rfl⟩
theorem dX10_socket_51 : DI cX10_socket 51 (.aload_n 0) 1 52 := ⟨by decide +kernel, rfl⟩
theorem dX10_socket_52 : DI cX10_socket 52 (.getfield 16) 3 55 := ⟨by decide +kernel, rfl⟩
theorem dX10_socket_55 : DI cX10_socket 55 (.aload_n 0) 1 56 := ⟨by decide +kernel, rfl⟩
theorem dX10_socket_56 : DI cX10_socket 56 (.getfield 145) 3 59 := ⟨by decide +kernel, rfl⟩
theorem dX10_socket_59 : DI cX10_socket 59 (.iload_n 1) 1 60 := ⟨by decide +kernel, rfl⟩
theorem dX10_socket_60 : DI cX10_socket 60 (.iastore) 1 61 := ⟨by decide +kernel, rfl⟩
theorem dX10_socket_61 : DI cX10_socket 61 (.aload_n 0) 1 62 := ⟨by decide +kernel, rfl⟩
theorem dX10_socket_62 : DI cX10_socket 62 (.getfield 20) 3 65 := ⟨by decide +kernel, rfl⟩
theorem dX10_socket_65 : DI cX10_socket 65 (.aload_n 0) 1 66 := ⟨by decide +kernel, rfl⟩
theorem dX10_socket_66 : DI cX10_socket 66 (.getfield 145) 3 69 := ⟨by decide +kernel, rfl⟩
theorem dX10_socket_69 : DI cX10_socket 69 (.iload_n 2) 1 70 := ⟨by decide +kernel, rfl⟩
theorem dX10_socket_70 : DI cX10_socket 70 (.iastore) 1 71 := ⟨by decide +kernel, rfl⟩
theorem dX10_socket_71 : DI cX10_socket 71 (.aload_n 0) 1 72 := ⟨by decide +kernel, rfl⟩
theorem dX10_socket_72 : DI cX10_socket 72 (.dup) 1 73 := ⟨by decide +kernel, rfl⟩
theorem dX10_socket_73 : DI cX10_socket 73 (.getfield 145) 3 76 := ⟨by decide +kernel, rfl⟩
theorem dX10_socket_76 : DI cX10_socket 76 (.iconst 1) 1 77 := ⟨by decide +kernel, rfl⟩
theorem dX10_socket_77 : DI cX10_socket 77 (.iadd) 1 78 := ⟨by decide +kernel, rfl⟩
theorem dX10_socket_78 : DI cX10_socket 78 (.putfield 145) 3 81 := ⟨by decide +kernel, rfl⟩
theorem dX10_socket_81 : DI cX10_socket 81 (.aload_n 0) 1 82 := ⟨by decide +kernel, rfl⟩
theorem dX10_socket_82 : DI cX10_socket 82 (.getfield 145) 3 85 := ⟨by decide +kernel, rfl⟩
theorem dX10_socket_85 : DI cX10_socket 85 (.iconst 1) 1 86 := ⟨by decide +kernel, rfl⟩
theorem dX10_socket_86 : DI cX10_socket 86 (.isub) 1 87 := ⟨by decide +kernel, rfl⟩
theorem dX10_socket_87 : DI cX10_socket 87 (.ireturn) 1 88 := ⟨by decide +kernel, rfl⟩
theorem dX10_car_0 : DI cX10_car 0 (.aload_n 0) 1 1 := ⟨by decide +kernel, rfl⟩
theorem dX10_car_1 : DI cX10_car 1 (.iconst 0) 1 2 := ⟨by decide +kernel, rfl⟩
theorem dX10_car_2 : DI cX10_car 2 (.putfield 138) 3 5 := ⟨by decide +kernel, rfl⟩
theorem dX10_car_5 : DI cX10_car 5 (.iload_n 1) 1 6 := ⟨by decide +kernel, rfl⟩
theorem dX10_car_6 : DI cX10_car 6 (.iconst 1) 1 7 := ⟨by decide +kernel, rfl⟩
theorem dX10_car_7 : DI cX10_car 7 (.ldc 163) 2 9 := ⟨by decide +kernel, rfl⟩
theorem dX10_car_9 : DI cX10_car 9 (.invokestatic 141) 3 12 := ⟨by decide +kernel, rfl⟩
theorem dX10_car_12 : DB cX10_car 12 (.ifCond .eq 22) (22) 3 15 34 := ⟨by decide +kernel, rfl, by decide⟩
theorem dX10_car_15 : DI cX10_car 15 (.iload_n 2) 1 16 := ⟨by decide +kernel, rfl⟩
theorem dX10_car_16 : DI cX10_car 16 (.iconst 0) 1 17 := ⟨by decide +kernel, rfl⟩
theorem dX10_car_17 : DI cX10_car 17 (.iload_n 1) 1 18 := ⟨by decide +kernel, rfl⟩
theorem dX10_car_18 : DI cX10_car 18 (.invokestatic 141) 3 21 := ⟨by decide +kernel, rfl⟩
theorem dX10_car_21 : DB cX10_car 21 (.ifCond .eq 13) (13) 3 24 34 := ⟨by decide +kernel, rfl, by decide⟩
theorem dX10_car_24 : DI cX10_car 24 (.iload_n 3) 1 25 := ⟨by decide +kernel, rfl⟩
theorem dX10_car_25 : DI cX10_car 25 (.iconst 1) 1 26 := ⟨by decide +kernel, rfl⟩
theorem dX10_car_26 : DI cX10_car 26 (.ldc 162) 2 28 := ⟨by decide +kernel, rfl⟩
theorem dX10_car_28 : DI cX10_car 28 (.invokestatic 141) 3 31 := ⟨by decide +kernel, rfl⟩
theorem dX10_car_31 : DB cX10_car 31 (.ifCond .ne 9) (9) 3 34 40 := ⟨by decide +kernel, rfl, by decide⟩
theorem dX10_car_34 : DI cX10_car 34 (.aload_n 0) 1 35 := ⟨by decide +kernel, rfl⟩
theorem dX10_car_35 : DI cX10_car 35 (.iconst 1) 1 36 := ⟨by decide +kernel, rfl⟩
theorem dX10_car_36 : DI cX10_car 36 (.invokevirtual 158) 3 39 := ⟨by decide +kernel, rfl⟩
theorem dX10_car_39 : DI cX10_car 39 (.ireturn) 1 40 := ⟨by decide +kernel, rfl⟩
theorem dX10_car_40 : DI cX10_car 40 (.aload_n 0) 1 41 := ⟨by decide +kernel, rfl⟩
theorem dX10_car_41 : DI cX10_car 41 (.getfield 164) 3 44 := ⟨by decide +kernel, rfl⟩
theorem dX10_car_44 : DI cX10_car 44 (.bipush 12) 2 46 := ⟨by decide +kernel, rfl⟩
theorem dX10_car_46 : DB cX10_car 46 (.if_icmp .ne 9) (9) 3 49 55 := ⟨by decide +kernel, rfl, by decide⟩
theorem dX10_car_49 : DI cX10_car 49 (.aload_n 0) 1 50 := ⟨by decide +kernel, rfl⟩
theorem dX10_car_50 : DI cX10_car 50 (.iconst 2) 1 51 := ⟨by decide +kernel, rfl⟩
theorem dX10_car_51 : DI cX10_car 51 (.invokevirtual 158) 3 54 := ⟨by decide +kernel, rfl⟩
theorem dX10_car_54 : DI cX10_car 54 (.ireturn) 1 55 := ⟨by decide +kernel, rfl⟩
theorem dX10_car_55 : DI cX10_car 55 (.aload_n 0) 1 56 := ⟨by decide +kernel, rfl⟩
theorem dX10_car_56 : DI cX10_car 56 (.getfield 36) 3 59 := ⟨by decide +kernel, rfl⟩
theorem dX10_car_59 : DI cX10_car 59 (.aload_n 0) 1 60 := ⟨by decide +kernel, rfl⟩
theorem dX10_car_60 : DI cX10_car 60 (.getfield 164) 3 63 := ⟨by decide +kernel, rfl⟩
theorem dX10_car_63 : DI cX10_car 63 (.iload_n 1) 1 64 := ⟨by decide +kernel, rfl⟩
theorem dX10_car_64 : DI cX10_car 64 (.iastore) 1 65 := ⟨by decide +kernel, rfl⟩
theorem dX10_car_65 : DI cX10_car 65 (.aload_n 0) 1 66 := ⟨by decide +kernel, rfl⟩
theorem dX10_car_66 : DI cX10_car 66 (.getfield 39) 3 69 := ⟨by decide +kernel, rfl⟩
theorem dX10_car_69 : DI cX10_car 69 (.aload_n 0) 1 70 := ⟨by decide +kernel, rfl⟩
theorem dX10_car_70 : DI cX10_car 70 (.getfield 164) 3 73 := ⟨by decide +kernel, rfl⟩
theorem dX10_car_73 : DI cX10_car 73 (.iload_n 2) 1 74 := ⟨by decide +kernel, rfl⟩
theorem dX10_car_74 : DI cX10_car 74 (.iastore) 1 75 := ⟨by decide +kernel, rfl⟩
theorem dX10_car_75 : DI cX10_car 75 (.aload_n 0) 1 76 := ⟨by decide +kernel, rfl⟩
theorem dX10_car_76 : DI cX10_car 76 (.getfield 42) 3 79 := ⟨by decide +kernel, rfl⟩
theorem dX10_car_79 : DI cX10_car 79 (.aload_n 0) 1 80 := ⟨by decide +kernel, rfl⟩
theorem dX10_car_80 : DI cX10_car 80 (.getfield 164) 3 83 := ⟨by decide +kernel, rfl⟩
theorem dX10_car_83 : DI cX10_car 83 (.iload_n 3) 1 84 := ⟨by decide +kernel, rfl⟩
theorem dX10_car_84 : DI cX10_car 84 (.iastore) 1 85 := ⟨by decide +kernel, rfl⟩
theorem dX10_car_85 : DI cX10_car 85 (.aload_n 0) 1 86 := ⟨by decide +kernel, rfl⟩
theorem dX10_car_86 : DI cX10_car 86 (.dup) 1 87 := ⟨by decide +kernel, rfl⟩
theorem dX10_car_87 : DI cX10_car 87 (.getfield 164) 3 90 := ⟨by decide +kernel, rfl⟩
theorem dX10_car_90 : DI cX10_car 90 (.iconst 1) 1 91 := ⟨by decide +kernel, rfl⟩
theorem dX10_car_91 : DI cX10_car 91 (.iadd) 1 92 := ⟨by decide +kernel, rfl⟩
theorem dX10_car_92 : DI cX10_car 92 (.putfield 164) 3 95 := ⟨by decide +kernel, rfl⟩
theorem dX10_car_95 : DI cX10_car 95 (.aload_n 0) 1 96 := ⟨by decide +kernel, rfl⟩
theorem dX10_car_96 : DI cX10_car 96 (.getfield 164) 3 99 := ⟨by decide +kernel, rfl⟩
theorem dX10_car_99 : DI cX10_car 99 (.iconst 1) 1 100 := ⟨by decide +kernel, rfl⟩
theorem dX10_car_100 : DI cX10_car 100 (.isub) 1 101 := ⟨by decide +kernel, rfl⟩
theorem dX10_car_101 : DI cX10_car 101 (.ireturn) 1 102 := ⟨by decide +kernel, rfl⟩
theorem dX10_card_0 : DI cX10_card 0 (.aload_n 0) 1 1 := ⟨by decide +kernel, rfl⟩
theorem dX10_card_1 : DI cX10_card 1 (.iconst 0) 1 2 := ⟨by decide +kernel, rfl⟩
theorem dX10_card_2 : DI cX10_card 2 (.putfield 138) 3 5 := ⟨by decide +kernel, rfl⟩
theorem dX10_card_5 : DI cX10_card 5 (.iload_n 1) 1 6 := ⟨by decide +kernel, rfl⟩
theorem dX10_card_6 : DI cX10_card 6 (.invokestatic 154) 3 9 := ⟨by decide +kernel, rfl⟩
theorem dX10_card_9 : DB cX10_card 9 (.ifCond .ne 9) (9) 3 12 18 := ⟨by decide +kernel, rfl, by decide⟩
theorem dX10_card_12 : DI cX10_card 12 (.aload_n 0) 1 13 := ⟨by decide +kernel, rfl⟩
theorem dX10_card_13 : DI cX10_card 13 (.iconst 1) 1 14 := ⟨by decide +kernel, rfl⟩
theorem dX10_card_14 : DI cX10_card 14 (.invokevirtual 158) 3 17 := ⟨by decide +kernel, rfl⟩
theorem dX10_card_17 : DI cX10_card 17 (.ireturn) 1 18 := ⟨by decide +kernel, rfl⟩
theorem dX10_card_18 : DI cX10_card 18 (.iload_n 2) 1 19 := ⟨by decide +kernel, rfl⟩
theorem dX10_card_19 : DI cX10_card 19 (.iconst 0) 1 20 := ⟨by decide +kernel, rfl⟩
theorem dX10_card_20 : DI cX10_card 20 (.iconst 3) 1 21 := ⟨by decide +kernel, rfl⟩
theorem dX10_card_21 : DI cX10_card 21 (.invokestatic 141) 3 24 := ⟨by decide +kernel, rfl⟩
theorem dX10_card_24 : DB cX10_card 24 (.ifCond .ne 9) (9) 3 27 33 := ⟨by decide +kernel, rfl, by decide⟩
theorem dX10_card_27 : DI cX10_card 27 (.aload_n 0) 1 28 := ⟨by decide +kernel, rfl⟩
theorem dX10_card_28 : DI cX10_card 28 (.iconst 2) 1 29 := ⟨by decide +kernel, rfl⟩
theorem dX10_card_29 : DI cX10_card 29 (.invokevirtual 158) 3 32 := ⟨by decide +kernel, rfl⟩
theorem dX10_card_32 : DI cX10_card 32 (.ireturn) 1 33 := ⟨by decide +kernel, rfl⟩
theorem dX10_card_33 : DI cX10_card 33 (.aload_n 0) 1 34 := ⟨by decide +kernel, rfl⟩
theorem dX10_card_34 : DI cX10_card 34 (.getfield 148) 3 37 := ⟨by decide +kernel, rfl⟩
theorem dX10_card_37 : DI cX10_card 37 (.bipush 12) 2 39 := ⟨by decide +kernel, rfl⟩
theorem dX10_card_39 : DB cX10_card 39 (.if_icmp .ne 9) (9) 3 42 48 := ⟨by decide +kernel, rfl, by decide⟩
theorem dX10_card_42 : DI cX10_card 42 (.aload_n 0) 1 43 := ⟨by decide +kernel, rfl⟩
theorem dX10_card_43 : DI cX10_card 43 (.iconst 3) 1 44 := ⟨by decide +kernel, rfl⟩
theorem dX10_card_44 : DI cX10_card 44 (.invokevirtual 158) 3 47 := ⟨by decide +kernel, rfl⟩
theorem dX10_card_47 : DI cX10_card 47 (.ireturn) 1 48 := ⟨by decide +kernel, rfl⟩
theorem dX10_card_48 : DI cX10_card 48 (.aload_n 0) 1 49 := ⟨by decide +kernel, rfl⟩
theorem dX10_card_49 : DI cX10_card 49 (.getfield 45) 3 52 := ⟨by decide +kernel, rfl⟩
theorem dX10_card_52 : DI cX10_card 52 (.aload_n 0) 1 53 := ⟨by decide +kernel, rfl⟩
theorem dX10_card_53 : DI cX10_card 53 (.getfield 148) 3 56 := ⟨by decide +kernel, rfl⟩
theorem dX10_card_56 : DI cX10_card 56 (.iload_n 1) 1 57 := ⟨by decide +kernel, rfl⟩
theorem dX10_card_57 : DI cX10_card 57 (.iastore) 1 58 := ⟨by decide +kernel, rfl⟩
theorem dX10_card_58 : DI cX10_card 58 (.aload_n 0) 1 59 := ⟨by decide +kernel, rfl⟩
theorem dX10_card_59 : DI cX10_card 59 (.getfield 48) 3 62 := ⟨by decide +kernel, rfl⟩
theorem dX10_card_62 : DI cX10_card 62 (.aload_n 0) 1 63 := ⟨by decide +kernel, rfl⟩
theorem dX10_card_63 : DI cX10_card 63 (.getfield 148) 3 66 := ⟨by decide +kernel, rfl⟩
theorem dX10_card_66 : DI cX10_card 66 (.iload_n 2) 1 67 := ⟨by decide +kernel, rfl⟩
theorem dX10_card_67 : DI cX10_card 67 (.iastore) 1 68 := ⟨by decide +kernel, rfl⟩
theorem dX10_card_68 : DI cX10_card 68 (.aload_n 0) 1 69 := ⟨by decide +kernel, rfl⟩
theorem dX10_card_69 : DI cX10_card 69 (.getfield 51) 3 72 := ⟨by decide +kernel, rfl⟩
theorem dX10_card_72 : DI cX10_card 72 (.aload_n 0) 1 73 := ⟨by decide +kernel, rfl⟩
theorem dX10_card_73 : DI cX10_card 73 (.getfield 148) 3 76 := ⟨by decide +kernel, rfl⟩
theorem dX10_card_76 : DI cX10_card 76 (.iconst 1) 1 77 := ⟨by decide +kernel, rfl⟩
theorem dX10_card_77 : DI cX10_card 77 (.bastore) 1 78 := ⟨by decide +kernel, rfl⟩
theorem dX10_card_78 : DI cX10_card 78 (.aload_n 0) 1 79 := ⟨by decide +kernel, rfl⟩
theorem dX10_card_79 : DI cX10_card 79 (.dup) 1 80 := ⟨by decide +kernel, rfl⟩
theorem dX10_card_80 : DI cX10_card 80 (.getfield 148) 3 83 := ⟨by decide +kernel, rfl⟩
theorem dX10_card_83 : DI cX10_card 83 (.iconst 1) 1 84 := ⟨by decide +kernel, rfl⟩
theorem dX10_card_84 : DI cX10_card 84 (.iadd) 1 85 := ⟨by decide +kernel, rfl⟩
theorem dX10_card_85 : DI cX10_card 85 (.putfield 148) 3 88 := ⟨by decide +kernel, rfl⟩
theorem dX10_card_88 : DI cX10_card 88 (.aload_n 0) 1 89 := ⟨by decide +kernel, rfl⟩
theorem dX10_card_89 : DI cX10_card 89 (.getfield 148) 3 92 := ⟨by decide +kernel, rfl⟩
theorem dX10_card_92 : DI cX10_card 92 (.iconst 1) 1 93 := ⟨by decide +kernel, rfl⟩
theorem dX10_card_93 : DI cX10_card 93 (.isub) 1 94 := ⟨by decide +kernel, rfl⟩
theorem dX10_card_94 : DI cX10_card 94 (.ireturn) 1 95 := ⟨by decide +kernel, rfl⟩
theorem dX10_good_0 : DI cX10_good 0 (.aload_n 0) 1 1 := ⟨by decide +kernel, rfl⟩
theorem dX10_good_1 : DI cX10_good 1 (.iconst 0) 1 2 := ⟨by decide +kernel, rfl⟩
theorem dX10_good_2 : DI cX10_good 2 (.putfield 138) 3 5 := ⟨by decide +kernel, rfl⟩
theorem dX10_good_5 : DI cX10_good 5 (.aload_n 0) 1 6 := ⟨by decide +kernel, rfl⟩
theorem dX10_good_6 : DI cX10_good 6 (.iload_n 1) 1 7 := ⟨by decide +kernel, rfl⟩
theorem dX10_good_7 : DI cX10_good 7 (.invokevirtual 167) 3 10 := ⟨by decide +kernel, rfl⟩
theorem dX10_good_10 : DB cX10_good 10 (.ifCond .ne 9) (9) 3 13 19 := ⟨by decide +kernel, rfl, by decide⟩
theorem dX10_good_13 : DI cX10_good 13 (.aload_n 0) 1 14 := ⟨by decide +kernel, rfl⟩
theorem dX10_good_14 : DI cX10_good 14 (.iconst 1) 1 15 := ⟨by decide +kernel, rfl⟩
theorem dX10_good_15 : DI cX10_good 15 (.invokevirtual 170) 3 18 := ⟨by decide +kernel, rfl⟩
theorem dX10_good_18 : DI cX10_good 18 (.ireturn) 1 19 := ⟨by decide +kernel, rfl⟩
theorem dX10_good_19 : DI cX10_good 19 (.aload_n 0) 1 20 := ⟨by decide +kernel, rfl⟩
theorem dX10_good_20 : DI cX10_good 20 (.getfield 51) 3 23 := ⟨by decide +kernel, rfl⟩
theorem dX10_good_23 : DI cX10_good 23 (.iload_n 1) 1 24 := ⟨by decide +kernel, rfl⟩
theorem dX10_good_24 : DI cX10_good 24 (.baload) 1 25 := ⟨by decide +kernel, rfl⟩
theorem dX10_good_25 : DI cX10_good 25 (.istore_n 3) 1 26 := ⟨by decide +kernel, rfl⟩
theorem dX10_good_26 : DI cX10_good 26 (.aload_n 0) 1 27 := ⟨by decide +kernel, rfl⟩
theorem dX10_good_27 : DI cX10_good 27 (.getfield 51) 3 30 := ⟨by decide +kernel, rfl⟩
theorem dX10_good_30 : DI cX10_good 30 (.iload_n 1) 1 31 := ⟨by decide +kernel, rfl⟩
theorem dX10_good_31 : DI cX10_good 31 (.iload_n 2) 1 32 := ⟨by decide +kernel, rfl⟩
theorem dX10_good_32 : DI cX10_good 32 (.bastore) 1 33 := ⟨by decide +kernel, rfl⟩
theorem dX10_good_33 : DI cX10_good 33 (.iload_n 3) 1 34 := ⟨by decide +kernel, rfl⟩
theorem dX10_good_34 : DI cX10_good 34 (.ireturn) 1 35 := ⟨by decide +kernel, rfl⟩
theorem dX10_set_0 : DI cX10_set 0 (.aload_n 0) 1 1 := ⟨by decide +kernel, rfl⟩
theorem dX10_set_1 : DI cX10_set 1 (.iconst 0) 1 2 := ⟨by decide +kernel, rfl⟩
theorem dX10_set_2 : DI cX10_set 2 (.putfield 138) 3 5 := ⟨by decide +kernel, rfl⟩
theorem dX10_set_5 : DI cX10_set 5 (.iload_n 1) 1 6 := ⟨by decide +kernel, rfl⟩
theorem dX10_set_6 : DB cX10_set 6 (.ifCond .ne 13) (13) 3 9 19 := ⟨by decide +kernel, rfl, by decide⟩
theorem dX10_set_9 : DI cX10_set 9 (.iload_n 2) 1 10 := ⟨by decide +kernel, rfl⟩
theorem dX10_set_10 : DI cX10_set 10 (.iconst 0) 1 11 := ⟨by decide +kernel, rfl⟩
theorem dX10_set_11 : DI cX10_set 11 (.ldc 173) 2 13 := ⟨by decide +kernel, rfl⟩
theorem dX10_set_13 : DI cX10_set 13 (.invokestatic 141) 3 16 := ⟨by decide +kernel, rfl⟩
theorem dX10_set_16 : DB cX10_set 16 (.goto 39) (39) 3 19 55 := ⟨by decide +kernel, rfl, by decide⟩
theorem dX10_set_19 : DI cX10_set 19 (.iload_n 1) 1 20 := ⟨by decide +kernel, rfl⟩
theorem dX10_set_20 : DI cX10_set 20 (.iconst 1) 1 21 := ⟨by decide +kernel, rfl⟩
theorem dX10_set_21 : DB cX10_set 21 (.if_icmp .ne 13) (13) 3 24 34 := ⟨by decide +kernel, rfl, by decide⟩
theorem dX10_set_24 : DI cX10_set 24 (.iload_n 2) 1 25 := ⟨by decide +kernel, rfl⟩
theorem dX10_set_25 : DI cX10_set 25 (.iconst 0) 1 26 := ⟨by decide +kernel, rfl⟩
theorem dX10_set_26 : DI cX10_set 26 (.ldc 174) 2 28 := ⟨by decide +kernel, rfl⟩
theorem dX10_set_28 : DI cX10_set 28 (.invokestatic 141) 3 31 := ⟨by decide +kernel, rfl⟩
theorem dX10_set_31 : DB cX10_set 31 (.goto 24) (24) 3 34 55 := ⟨by decide +kernel, rfl, by decide⟩
theorem dX10_set_34 : DI cX10_set 34 (.iload_n 1) 1 35 := ⟨by decide +kernel, rfl⟩
theorem dX10_set_35 : DI cX10_set 35 (.iconst 2) 1 36 := ⟨by decide +kernel, rfl⟩
theorem dX10_set_36 : DB cX10_set 36 (.if_icmp .ne 18) (18) 3 39 54 := ⟨by decide +kernel, rfl, by decide⟩
theorem dX10_set_39 : DI cX10_set 39 (.iload_n 2) 1 40 := ⟨by decide +kernel, rfl⟩
theorem dX10_set_40 : DI cX10_set 40 (.bipush (-50)) 2 42 := ⟨by decide +kernel, rfl⟩
theorem dX10_set_42 : DI cX10_set 42 (.bipush 50) 2 44 := ⟨by decide +kernel, rfl⟩
theorem dX10_set_44 : DI cX10_set 44 (.invokestatic 141) 3 47 := ⟨by decide +kernel, rfl⟩
theorem dX10_set_47 : DB cX10_set 47 (.ifCond .eq 7) (7) 3 50 54 := ⟨by decide +kernel, rfl, by decide⟩
theorem dX10_set_50 : DI cX10_set 50 (.iconst 1) 1 51 := ⟨by decide +kernel, rfl⟩
theorem dX10_set_51 : DB cX10_set 51 (.goto 4) (4) 3 54 55 := ⟨by decide +kernel, rfl, by decide⟩
theorem dX10_set_54 : DI cX10_set 54 (.iconst 0) 1 55 := ⟨by decide +kernel, rfl⟩
theorem dX10_set_55 : DI cX10_set 55 (.istore_n 3) 1 56 := ⟨by decide +kernel, rfl⟩
theorem dX10_set_56 : DI cX10_set 56 (.iload_n 3) 1 57 := ⟨by decide +kernel, rfl⟩
theorem dX10_set_57 : DB cX10_set 57 (.ifCond .ne 9) (9) 3 60 66 := ⟨by decide +kernel, rfl, by decide⟩
theorem dX10_set_60 : DI cX10_set 60 (.aload_n 0) 1 61 := ⟨by decide +kernel, rfl⟩
theorem dX10_set_61 : DI cX10_set 61 (.iconst 1) 1 62 := ⟨by decide +kernel, rfl⟩
theorem dX10_set_62 : DI cX10_set 62 (.invokevirtual 158) 3 65 := ⟨by decide +kernel, rfl⟩
theorem dX10_set_65 : DI cX10_set 65 (.ireturn) 1 66 := ⟨by decide +kernel, rfl⟩
theorem dX10_set_66 : DI cX10_set 66 (.iload_n 1) 1 67 := ⟨by decide +kernel, rfl⟩
theorem dX10_set_67 : DB cX10_set 67 (.ifCond .ne 10) (10) 3 70 77 := ⟨by decide +kernel, rfl, by decide⟩
theorem dX10_set_70 : DI cX10_set 70 (.aload_n 0) 1 71 := ⟨by decide +kernel, rfl⟩
theorem dX10_set_71 : DI cX10_set 71 (.getfield 7) 3 74 := ⟨by decide +kernel, rfl⟩
theorem dX10_set_74 : DB cX10_set 74 (.goto 19) (19) 3 77 93 := ⟨by decide +kernel, rfl, by decide⟩
theorem dX10_set_77 : DI cX10_set 77 (.iload_n 1) 1 78 := ⟨by decide +kernel, rfl⟩
theorem dX10_set_78 : DI cX10_set 78 (.iconst 1) 1 79 := ⟨by decide +kernel, rfl⟩
theorem dX10_set_79 : DB cX10_set 79 (.if_icmp .ne 10) (10) 3 82 89 := ⟨by decide +kernel, rfl, by decide⟩
theorem dX10_set_82 : DI cX10_set 82 (.aload_n 0) 1 83 := ⟨by decide +kernel, rfl⟩
theorem dX10_set_83 : DI cX10_set 83 (.getfield 175) 3 86 := ⟨by decide +kernel, rfl⟩
theorem dX10_set_86 : DB cX10_set 86 (.goto 7) (7) 3 89 93 := ⟨by decide +kernel, rfl, by decide⟩
theorem dX10_set_89 : DI cX10_set 89 (.aload_n 0) 1 90 := ⟨by decide +kernel, rfl⟩
theorem dX10_set_90 : DI cX10_set 90 (.getfield 13) 3 93 := ⟨by decide +kernel, rfl⟩
theorem dX10_set_93 : DI cX10_set 93 (.istore 4) 2 95 := ⟨by decide +kernel, rfl⟩
theorem dX10_set_95 : DI cX10_set 95 (.aload_n 0) 1 96 := ⟨by decide +kernel, rfl⟩
theorem dX10_set_96 : DI cX10_set 96 (.iload_n 1) 1 97 := ⟨by decide +kernel, rfl⟩
theorem dX10_set_97 : DB cX10_set 97 (.ifCond .ne 7) (7) 3 100 104 := ⟨by decide +kernel, rfl, by decide⟩
theorem dX10_set_100 : DI cX10_set 100 (.iload_n 2) 1 101 := ⟨by decide +kernel, rfl⟩
theorem dX10_set_101 : DB cX10_set 101 (.goto 7) (7) 3 104 108 := ⟨by decide +kernel, rfl, by decide⟩
theorem dX10_set_104 : DI cX10_set 104 (.aload_n 0) 1 105 := ⟨by decide +kernel, rfl⟩
theorem dX10_set_105 : DI cX10_set 105 (.getfield 7) 3 108 := ⟨by decide +kernel, rfl⟩
theorem dX10_set_108 : DI cX10_set 108 (.putfield 7) 3 111 := ⟨by decide +kernel, rfl⟩
theorem dX10_set_111 : DI cX10_set 111 (.aload_n 0) 1 112 := ⟨by decide +kernel, rfl⟩
theorem dX10_set_112 : DI cX10_set 112 (.iload_n 1) 1 113 := ⟨by decide +kernel, rfl⟩
theorem dX10_set_113 : DI cX10_set 113 (.iconst 1) 1 114 := ⟨by decide +kernel, rfl⟩
theorem dX10_set_114 : DB cX10_set 114 (.if_icmp .ne 7) (7) 3 117 121 := ⟨by decide +kernel, rfl, by decide⟩
theorem dX10_set_117 : DI cX10_set 117 (.iload_n 2) 1 118 := ⟨by decide +kernel, rfl⟩
theorem dX10_set_118 : DB cX10_set 118 (.goto 7) (7) 3 121 125 := ⟨by decide +kernel, rfl, by decide⟩
theorem dX10_set_121 : DI cX10_set 121 (.aload_n 0) 1 122 := ⟨by decide +kernel, rfl⟩
theorem dX10_set_122 : DI cX10_set 122 (.getfield 175) 3 125 := ⟨by decide +kernel, rfl⟩
theorem dX10_set_125 : DI cX10_set 125 (.putfield 175) 3 128 := ⟨by decide +kernel, rfl⟩
theorem dX10_set_128 : DI cX10_set 128 (.aload_n 0) 1 129 := ⟨by decide +kernel, rfl⟩
theorem dX10_set_129 : DI cX10_set 129 (.iload_n 1) 1 130 := ⟨by decide +kernel, rfl⟩
theorem dX10_set_130 : DI cX10_set 130 (.iconst 2) 1 131 := ⟨by decide +kernel, rfl⟩
theorem dX10_set_131 : DB cX10_set 131 (.if_icmp .ne 7) (7) 3 134 138 := ⟨by decide +kernel, rfl, by decide⟩
theorem dX10_set_134 : DI cX10_set 134 (.iload_n 2) 1 135 := ⟨by decide +kernel, rfl⟩
theorem dX10_set_135 : DB cX10_set 135 (.goto 7) (7) 3 138 142 := ⟨by decide +kernel, rfl, by decide⟩
theorem dX10_set_138 : DI cX10_set 138 (.aload_n 0) 1 139 := ⟨by decide +kernel, rfl⟩
theorem dX10_set_139 : DI cX10_set 139 (.getfield 13) 3 142 := ⟨by decide +kernel, rfl⟩
theorem dX10_set_142 : DI cX10_set 142 (.putfield 13) 3 145 := ⟨by decide +kernel, rfl⟩
theorem dX10_set_145 : DI cX10_set 145 (.iload 4) 2 147 := ⟨by decide +kernel, rfl⟩
theorem dX10_set_147 : DI cX10_set 147 (.ireturn) 1 148 := ⟨by decide +kernel, rfl⟩
theorem dX10_fault_0 : DI cX10_fault 0 (.aload_n 0) 1 1 := ⟨by decide +kernel, rfl⟩
theorem dX10_fault_1 : DI cX10_fault 1 (.iconst 0) 1 2 := ⟨by decide +kernel, rfl⟩
theorem dX10_fault_2 : DI cX10_fault 2 (.putfield 138) 3 5 := ⟨by decide +kernel, rfl⟩
theorem dX10_fault_5 : DI cX10_fault 5 (.aload_n 0) 1 6 := ⟨by decide +kernel, rfl⟩
theorem dX10_fault_6 : DI cX10_fault 6 (.iload_n 1) 1 7 := ⟨by decide +kernel, rfl⟩
theorem dX10_fault_7 : DI cX10_fault 7 (.invokevirtual 178) 3 10 := ⟨by decide +kernel, rfl⟩
theorem dX10_fault_10 : DB cX10_fault 10 (.ifCond .ne 9) (9) 3 13 19 := ⟨by decide +kernel, rfl, by decide⟩
theorem dX10_fault_13 : DI cX10_fault 13 (.aload_n 0) 1 14 := ⟨by decide +kernel, rfl⟩
theorem dX10_fault_14 : DI cX10_fault 14 (.iconst 1) 1 15 := ⟨by decide +kernel, rfl⟩
theorem dX10_fault_15 : DI cX10_fault 15 (.invokevirtual 170) 3 18 := ⟨by decide +kernel, rfl⟩
theorem dX10_fault_18 : DI cX10_fault 18 (.ireturn) 1 19 := ⟨by decide +kernel, rfl⟩
theorem dX10_fault_19 : DI cX10_fault 19 (.aload_n 0) 1 20 := ⟨by decide +kernel, rfl⟩
theorem dX10_fault_20 : DI cX10_fault 20 (.getfield 23) 3 23 := ⟨by decide +kernel, rfl⟩
theorem dX10_fault_23 : DI cX10_fault 23 (.iload_n 1) 1 24 := ⟨by decide +kernel, rfl⟩
theorem dX10_fault_24 : DI cX10_fault 24 (.baload) 1 25 := ⟨by decide +kernel, rfl⟩
theorem dX10_fault_25 : DI cX10_fault 25 (.istore_n 3) 1 26 := ⟨by decide +kernel, rfl⟩
theorem dX10_fault_26 : DI cX10_fault 26 (.aload_n 0) 1 27 := ⟨by decide +kernel, rfl⟩
theorem dX10_fault_27 : DI cX10_fault 27 (.getfield 23) 3 30 := ⟨by decide +kernel, rfl⟩
theorem dX10_fault_30 : DI cX10_fault 30 (.iload_n 1) 1 31 := ⟨by decide +kernel, rfl⟩
theorem dX10_fault_31 : DI cX10_fault 31 (.iload_n 2) 1 32 := ⟨by decide +kernel, rfl⟩
theorem dX10_fault_32 : DI cX10_fault 32 (.bastore) 1 33 := ⟨by decide +kernel, rfl⟩
theorem dX10_fault_33 : DI cX10_fault 33 (.iload_n 3) 1 34 := ⟨by decide +kernel, rfl⟩
theorem dX10_fault_34 : DI cX10_fault 34 (.ireturn) 1 35 := ⟨by decide +kernel, rfl⟩
theorem dX10_hear_0 : DI cX10_hear 0 (.aload_n 0) 1 1 := ⟨by decide +kernel, rfl⟩
theorem dX10_hear_1 : DI cX10_hear 1 (.getfield 99) 3 4 := ⟨by decide +kernel, rfl⟩
theorem dX10_hear_4 : DI cX10_hear 4 (.iload_n 1) 1 5 := ⟨by decide +kernel, rfl⟩
theorem dX10_hear_5 : DI cX10_hear 5 (.iaload) 1 6 := ⟨by decide +kernel, rfl⟩
theorem dX10_hear_6 : DI cX10_hear 6 (.aload_n 0) 1 7 := ⟨by decide +kernel, rfl⟩
theorem dX10_hear_7 : DI cX10_hear 7 (.getfield 102) 3 10 := ⟨by decide +kernel, rfl⟩
theorem dX10_hear_10 : DI cX10_hear 10 (.iload_n 1) 1 11 := ⟨by decide +kernel, rfl⟩
theorem dX10_hear_11 : DI cX10_hear 11 (.iaload) 1 12 := ⟨by decide +kernel, rfl⟩
theorem dX10_hear_12 : DI cX10_hear 12 (.isub) 1 13 := ⟨by decide +kernel, rfl⟩
theorem dX10_hear_13 : DI cX10_hear 13 (.istore_n 2) 1 14 := ⟨by decide +kernel, rfl⟩
theorem dX10_hear_14 : DI cX10_hear 14 (.aload_n 0) 1 15 := ⟨by decide +kernel, rfl⟩
theorem dX10_hear_15 : DI cX10_hear 15 (.getfield 102) 3 18 := ⟨by decide +kernel, rfl⟩
theorem dX10_hear_18 : DI cX10_hear 18 (.iload_n 1) 1 19 := ⟨by decide +kernel, rfl⟩
theorem dX10_hear_19 : DI cX10_hear 19 (.aload_n 0) 1 20 := ⟨by decide +kernel, rfl⟩
theorem dX10_hear_20 : DI cX10_hear 20 (.getfield 99) 3 23 := ⟨by decide +kernel, rfl⟩
theorem dX10_hear_23 : DI cX10_hear 23 (.iload_n 1) 1 24 := ⟨by decide +kernel, rfl⟩
theorem dX10_hear_24 : DI cX10_hear 24 (.iaload) 1 25 := ⟨by decide +kernel, rfl⟩
theorem dX10_hear_25 : DI cX10_hear 25 (.iastore) 1 26 := ⟨by decide +kernel, rfl⟩
theorem dX10_hear_26 : DI cX10_hear 26 (.aload_n 0) 1 27 := ⟨by decide +kernel, rfl⟩
theorem dX10_hear_27 : DI cX10_hear 27 (.getfield 114) 3 30 := ⟨by decide +kernel, rfl⟩
theorem dX10_hear_30 : DI cX10_hear 30 (.iload_n 1) 1 31 := ⟨by decide +kernel, rfl⟩
theorem dX10_hear_31 : DI cX10_hear 31 (.aload_n 0) 1 32 := ⟨by decide +kernel, rfl⟩
theorem dX10_hear_32 : DI cX10_hear 32 (.getfield 105) 3 35 := ⟨by decide +kernel, rfl⟩
theorem dX10_hear_35 : DI cX10_hear 35 (.iload_n 1) 1 36 := ⟨by decide +kernel, rfl⟩
theorem dX10_hear_36 : DI cX10_hear 36 (.iaload) 1 37 := ⟨by decide +kernel, rfl⟩
theorem dX10_hear_37 : DI cX10_hear 37 (.iastore) 1 38 := ⟨by decide +kernel, rfl⟩
theorem dX10_hear_38 : DI cX10_hear 38 (.aload_n 0) 1 39 := ⟨by decide +kernel, rfl⟩
theorem dX10_hear_39 : DI cX10_hear 39 (.getfield 117) 3 42 := ⟨by decide +kernel, rfl⟩
theorem dX10_hear_42 : DI cX10_hear 42 (.iload_n 1) 1 43 := ⟨by decide +kernel, rfl⟩
theorem dX10_hear_43 : DI cX10_hear 43 (.aload_n 0) 1 44 := ⟨by decide +kernel, rfl⟩
theorem dX10_hear_44 : DI cX10_hear 44 (.getfield 108) 3 47 := ⟨by decide +kernel, rfl⟩
theorem dX10_hear_47 : DI cX10_hear 47 (.iload_n 1) 1 48 := ⟨by decide +kernel, rfl⟩
theorem dX10_hear_48 : DI cX10_hear 48 (.iaload) 1 49 := ⟨by decide +kernel, rfl⟩
theorem dX10_hear_49 : DI cX10_hear 49 (.iastore) 1 50 := ⟨by decide +kernel, rfl⟩
theorem dX10_hear_50 : DI cX10_hear 50 (.aload_n 0) 1 51 := ⟨by decide +kernel, rfl⟩
theorem dX10_hear_51 : DI cX10_hear 51 (.getfield 120) 3 54 := ⟨by decide +kernel, rfl⟩
theorem dX10_hear_54 : DI cX10_hear 54 (.iload_n 1) 1 55 := ⟨by decide +kernel, rfl⟩
theorem dX10_hear_55 : DI cX10_hear 55 (.aload_n 0) 1 56 := ⟨by decide +kernel, rfl⟩
theorem dX10_hear_56 : DI cX10_hear 56 (.getfield 111) 3 59 := ⟨by decide +kernel, rfl⟩
theorem dX10_hear_59 : DI cX10_hear 59 (.iload_n 1) 1 60 := ⟨by decide +kernel, rfl⟩
theorem dX10_hear_60 : DI cX10_hear 60 (.iaload) 1 61 := ⟨by decide +kernel, rfl⟩
theorem dX10_hear_61 : DI cX10_hear 61 (.iastore) 1 62 := ⟨by decide +kernel, rfl⟩
theorem dX10_hear_62 : DI cX10_hear 62 (.aload_n 0) 1 63 := ⟨by decide +kernel, rfl⟩
theorem dX10_hear_63 : DI cX10_hear 63 (.getfield 90) 3 66 := ⟨by decide +kernel, rfl⟩
theorem dX10_hear_66 : DI cX10_hear 66 (.iload_n 1) 1 67 := ⟨by decide +kernel, rfl⟩
theorem dX10_hear_67 : DI cX10_hear 67 (.iaload) 1 68 := ⟨by decide +kernel, rfl⟩
theorem dX10_hear_68 : DI cX10_hear 68 (.iconst 2) 1 69 := ⟨by decide +kernel, rfl⟩
theorem dX10_hear_69 : DB cX10_hear 69 (.if_icmp .ne 8) (8) 3 72 77 := ⟨by decide +kernel, rfl, by decide⟩
theorem dX10_hear_72 : DI cX10_hear 72 (.aload_n 0) 1 73 := ⟨by decide +kernel, rfl⟩
theorem dX10_hear_73 : DI cX10_hear 73 (.iload_n 1) 1 74 := ⟨by decide +kernel, rfl⟩
theorem dX10_hear_74 : DI cX10_hear 74 (.invokevirtual 181) 3 77 := ⟨by decide +kernel, rfl⟩
theorem dX10_hear_77 : DI cX10_hear 77 (.iload_n 2) 1 78 := ⟨by decide +kernel, rfl⟩
theorem dX10_hear_78 : DI cX10_hear 78 (.ireturn) 1 79 := ⟨by decide +kernel, rfl⟩
theorem dX10_link_0 : DI cX10_link 0 (.aload_n 0) 1 1 := ⟨by decide +kernel, rfl⟩
theorem dX10_link_1 : DI cX10_link 1 (.iconst 0) 1 2 := ⟨by decide +kernel, rfl⟩
theorem dX10_link_2 : DI cX10_link 2 (.putfield 138) 3 5 := ⟨by decide +kernel, rfl⟩
theorem dX10_link_5 : DI cX10_link 5 (.aload_n 0) 1 6 := ⟨by decide +kernel, rfl⟩
theorem dX10_link_6 : DI cX10_link 6 (.iload_n 1) 1 7 := ⟨by decide +kernel, rfl⟩
theorem dX10_link_7 : DI cX10_link 7 (.invokevirtual 178) 3 10 := ⟨by decide +kernel, rfl⟩
theorem dX10_link_10 : DB cX10_link 10 (.ifCond .ne 9) (9) 3 13 19 := ⟨by decide +kernel, rfl, by decide⟩
theorem dX10_link_13 : DI cX10_link 13 (.aload_n 0) 1 14 := ⟨by decide +kernel, rfl⟩
theorem dX10_link_14 : DI cX10_link 14 (.iconst 1) 1 15 := ⟨by decide +kernel, rfl⟩
theorem dX10_link_15 : DI cX10_link 15 (.invokevirtual 158) 3 18 := ⟨by decide +kernel, rfl⟩
theorem dX10_link_18 : DI cX10_link 18 (.ireturn) 1 19 := ⟨by decide +kernel, rfl⟩
theorem dX10_link_19 : DI cX10_link 19 (.iload_n 2) 1 20 := ⟨by decide +kernel, rfl⟩
theorem dX10_link_20 : DI cX10_link 20 (.aload_n 0) 1 21 := ⟨by decide +kernel, rfl⟩
theorem dX10_link_21 : DI cX10_link 21 (.getfield 27) 3 24 := ⟨by decide +kernel, rfl⟩
theorem dX10_link_24 : DI cX10_link 24 (.iload_n 1) 1 25 := ⟨by decide +kernel, rfl⟩
theorem dX10_link_25 : DI cX10_link 25 (.baload) 1 26 := ⟨by decide +kernel, rfl⟩
theorem dX10_link_26 : DB cX10_link 26 (.if_icmp .eq 5) (5) 3 29 31 := ⟨by decide +kernel, rfl, by decide⟩
theorem dX10_link_29 : DI cX10_link 29 (.iconst 0) 1 30 := ⟨by decide +kernel, rfl⟩
theorem dX10_link_30 : DI cX10_link 30 (.ireturn) 1 31 := ⟨by decide +kernel, rfl⟩
theorem dX10_link_31 : DI cX10_link 31 (.aload_n 0) 1 32 := ⟨by decide +kernel, rfl⟩
theorem dX10_link_32 : DI cX10_link 32 (.getfield 27) 3 35 := ⟨by decide +kernel, rfl⟩
theorem dX10_link_35 : DI cX10_link 35 (.iload_n 1) 1 36 := ⟨by decide +kernel, rfl⟩
theorem dX10_link_36 : DI cX10_link 36 (.iload_n 2) 1 37 := ⟨by decide +kernel, rfl⟩
theorem dX10_link_37 : DB cX10_link 37 (.ifCond .ne 7) (7) 3 40 44 := ⟨by decide +kernel, rfl, by decide⟩
theorem dX10_link_40 : DI cX10_link 40 (.iconst 1) 1 41 := ⟨by decide +kernel, rfl⟩
theorem dX10_link_41 : DB cX10_link 41 (.goto 4) (4) 3 44 45 := ⟨by decide +kernel, rfl, by decide⟩
theorem dX10_link_44 : DI cX10_link 44 (.iconst 0) 1 45 := ⟨by decide +kernel, rfl⟩
theorem dX10_link_45 : DI cX10_link 45 (.bastore) 1 46 := ⟨by decide +kernel, rfl⟩
theorem dX10_link_46 : DI cX10_link 46 (.iconst 0) 1 47 := ⟨by decide +kernel, rfl⟩
theorem dX10_link_47 : DI cX10_link 47 (.istore_n 3) 1 48 := ⟨by decide +kernel, rfl⟩
theorem dX10_link_48 : DI cX10_link 48 (.iload_n 2) 1 49 := ⟨by decide +kernel, rfl⟩
theorem dX10_link_49 : DB cX10_link 49 (.ifCond .eq 48) (48) 3 52 97 := ⟨by decide +kernel, rfl, by decide⟩
theorem dX10_link_52 : DI cX10_link 52 (.iconst 0) 1 53 := ⟨by decide +kernel, rfl⟩
theorem dX10_link_53 : DI cX10_link 53 (.istore 4) 2 55 := ⟨by decide +kernel, rfl⟩
theorem dX10_link_55 : DI cX10_link 55 (.iload 4) 2 57 := ⟨by decide +kernel, rfl⟩
theorem dX10_link_57 : DI cX10_link 57 (.aload_n 0) 1 58 := ⟨by decide +kernel, rfl⟩
theorem dX10_link_58 : DI cX10_link 58 (.getfield 151) 3 61 := ⟨by decide +kernel, rfl⟩
theorem dX10_link_61 : DB cX10_link 61 (.if_icmp .ge 33) (33) 3 64 94 := ⟨by decide +kernel, rfl, by decide⟩
theorem dX10_link_64 : DI cX10_link 64 (.iload_n 3) 1 65 := ⟨by decide +kernel, rfl⟩
theorem dX10_link_65 : DI cX10_link 65 (.aload_n 0) 1 66 := ⟨by decide +kernel, rfl⟩
theorem dX10_link_66 : DI cX10_link 66 (.getfield 81) 3 69 := ⟨by decide +kernel, rfl⟩
theorem dX10_link_69 : DI cX10_link 69 (.iload 4) 2 71 := ⟨by decide +kernel, rfl⟩
theorem dX10_link_71 : DI cX10_link 71 (.iaload) 1 72 := ⟨by decide +kernel, rfl⟩
theorem dX10_link_72 : DI cX10_link 72 (.iload_n 1) 1 73 := ⟨by decide +kernel, rfl⟩
theorem dX10_link_73 : DB cX10_link 73 (.if_icmp .ne 12) (12) 3 76 85 := ⟨by decide +kernel, rfl, by decide⟩
theorem dX10_link_76 : DI cX10_link 76 (.aload_n 0) 1 77 := ⟨by decide +kernel, rfl⟩
theorem dX10_link_77 : DI cX10_link 77 (.iload 4) 2 79 := ⟨by decide +kernel, rfl⟩
theorem dX10_link_79 : DI cX10_link 79 (.invokevirtual 185) 3 82 := ⟨by decide +kernel, rfl⟩
theorem dX10_link_82 : DB cX10_link 82 (.goto 4) (4) 3 85 86 := ⟨by decide +kernel, rfl, by decide⟩
theorem dX10_link_85 : DI cX10_link 85 (.iconst 0) 1 86 := ⟨by decide +kernel, rfl⟩
theorem dX10_link_86 : DI cX10_link 86 (.iadd) 1 87 := ⟨by decide +kernel, rfl⟩
theorem dX10_link_87 : DI cX10_link 87 (.istore_n 3) 1 88 := ⟨by decide +kernel, rfl⟩
theorem dX10_link_88 : DI cX10_link 88 (.iinc 4 1) 3 91 := ⟨by decide +kernel, rfl⟩
theorem dX10_link_91 : DB cX10_link 91 (.goto (-36)) (-36) 3 94 55 := ⟨by decide +kernel, rfl, by decide⟩
theorem dX10_link_94 : DB cX10_link 94 (.goto 45) (45) 3 97 139 := ⟨by decide +kernel, rfl, by decide⟩
theorem dX10_link_97 : DI cX10_link 97 (.aload_n 0) 1 98 := ⟨by decide +kernel, rfl⟩
theorem dX10_link_98 : DI cX10_link 98 (.getfield 30) 3 101 := ⟨by decide +kernel, rfl⟩
theorem dX10_link_101 : DI cX10_link 101 (.iload_n 1) 1 102 := ⟨by decide +kernel, rfl⟩
theorem dX10_link_102 : DI cX10_link 102 (.aload_n 0) 1 103 := ⟨by decide +kernel, rfl⟩
theorem dX10_link_103 : DI cX10_link 103 (.getfield 188) 3 106 := ⟨by decide +kernel, rfl⟩
theorem dX10_link_106 : DI cX10_link 106 (.iastore) 1 107 := ⟨by decide +kernel, rfl⟩
theorem dX10_link_107 : DI cX10_link 107 (.aload_n 0) 1 108 := ⟨by decide +kernel, rfl⟩
theorem dX10_link_108 : DI cX10_link 108 (.getfield 33) 3 111 := ⟨by decide +kernel, rfl⟩
theorem dX10_link_111 : DI cX10_link 111 (.iload_n 1) 1 112 := ⟨by decide +kernel, rfl⟩
theorem dX10_link_112 : DI cX10_link 112 (.iaload) 1 113 := ⟨by decide +kernel, rfl⟩
theorem dX10_link_113 : DI cX10_link 113 (.iconst (-1)) 1 114 := ⟨by decide +kernel, rfl⟩
theorem dX10_link_114 : DB cX10_link 114 (.if_icmp .eq 25) (25) 3 117 139 := ⟨by decide +kernel, rfl, by decide⟩
theorem dX10_link_117 : DI cX10_link 117 (.aload_n 0) 1 118 := ⟨by decide +kernel, rfl⟩
theorem dX10_link_118 : DI cX10_link 118 (.getfield 123) 3 121 := ⟨by decide +kernel, rfl⟩
theorem dX10_link_121 : DI cX10_link 121 (.aload_n 0) 1 122 := ⟨by decide +kernel, rfl⟩
theorem dX10_link_122 : DI cX10_link 122 (.getfield 33) 3 125 := ⟨by decide +kernel, rfl⟩
theorem dX10_link_125 : DI cX10_link 125 (.iload_n 1) 1 126 := ⟨by decide +kernel, rfl⟩
theorem dX10_link_126 : DI cX10_link 126 (.iaload) 1 127 := ⟨by decide +kernel, rfl⟩
theorem dX10_link_127 : DI cX10_link 127 (.aload_n 0) 1 128 := ⟨by decide +kernel, rfl⟩
theorem dX10_link_128 : DI cX10_link 128 (.getfield 96) 3 131 := ⟨by decide +kernel, rfl⟩
theorem dX10_link_131 : DI cX10_link 131 (.aload_n 0) 1 132 := ⟨by decide +kernel, rfl⟩
theorem dX10_link_132 : DI cX10_link 132 (.getfield 33) 3 135 := ⟨by decide +kernel, rfl⟩
theorem dX10_link_135 : DI cX10_link 135 (.iload_n 1) 1 136 := ⟨by decide +kernel, rfl⟩
theorem dX10_link_136 : DI cX10_link 136 (.iaload) 1 137 := ⟨by decide +kernel, rfl⟩
theorem dX10_link_137 : DI cX10_link 137 (.iaload) 1 138 := ⟨by decide +kernel, rfl⟩
theorem dX10_link_138 : DI cX10_link 138 (.iastore) 1 139 := ⟨by decide +kernel, rfl⟩
theorem dX10_link_139 : DI cX10_link 139 (.iload_n 3) 1 140 := ⟨by decide +kernel, rfl⟩
theorem dX10_link_140 : DI cX10_link 140 (.ireturn) 1 141 := ⟨by decide +kernel, rfl⟩
theorem dX10_tariff_0 : DI cX10_tariff 0 (.aload_n 0) 1 1 := ⟨by decide +kernel, rfl⟩
theorem dX10_tariff_1 : DI cX10_tariff 1 (.iconst 0) 1 2 := ⟨by decide +kernel, rfl⟩
theorem dX10_tariff_2 : DI cX10_tariff 2 (.putfield 138) 3 5 := ⟨by decide +kernel, rfl⟩
theorem dX10_tariff_5 : DI cX10_tariff 5 (.iload_n 1) 1 6 := ⟨by decide +kernel, rfl⟩
theorem dX10_tariff_6 : DI cX10_tariff 6 (.invokestatic 154) 3 9 := ⟨by decide +kernel, rfl⟩
theorem dX10_tariff_9 : DB cX10_tariff 9 (.ifCond .ne 10) (10) 3 12 19 := ⟨by decide +kernel, rfl, by decide⟩
theorem dX10_tariff_12 : DI cX10_tariff 12 (.aload_n 0) 1 13 := ⟨by decide +kernel, rfl⟩
theorem dX10_tariff_13 : DI cX10_tariff 13 (.iconst 1) 1 14 := ⟨by decide +kernel, rfl⟩
theorem dX10_tariff_14 : DI cX10_tariff 14 (.invokevirtual 158) 3 17 := ⟨by decide +kernel, rfl⟩
theorem dX10_tariff_17 : DI cX10_tariff 17 (.pop) 1 18 := ⟨by decide +kernel, rfl⟩
theorem dX10_tariff_18 : DI cX10_tariff 18 (.return_) 1 19 := ⟨by decide +kernel, rfl⟩
theorem dX10_tariff_19 : DI cX10_tariff 19 (.iload_n 2) 1 20 := ⟨by decide +kernel, rfl⟩
theorem dX10_tariff_20 : DI cX10_tariff 20 (.iconst 0) 1 21 := ⟨by decide +kernel, rfl⟩
theorem dX10_tariff_21 : DI cX10_tariff 21 (.sipush 1000) 3 24 := ⟨by decide +kernel, rfl⟩
theorem dX10_tariff_24 : DI cX10_tariff 24 (.invokestatic 141) 3 27 := ⟨by decide +kernel, rfl⟩
theorem dX10_tariff_27 : DB cX10_tariff 27 (.ifCond .eq 38) (38) 3 30 65 := ⟨by decide +kernel, rfl, by decide⟩
theorem dX10_tariff_30 : DI cX10_tariff 30 (.iload_n 3) 1 31 := ⟨by decide +kernel, rfl⟩
theorem dX10_tariff_31 : DI cX10_tariff 31 (.iconst 0) 1 32 := ⟨by decide +kernel, rfl⟩
theorem dX10_tariff_32 : DI cX10_tariff 32 (.sipush 1000) 3 35 := ⟨by decide +kernel, rfl⟩
theorem dX10_tariff_35 : DI cX10_tariff 35 (.invokestatic 141) 3 38 := ⟨by decide +kernel, rfl⟩
theorem dX10_tariff_38 : DB cX10_tariff 38 (.ifCond .eq 27) (27) 3 41 65 := ⟨by decide +kernel, rfl, by decide⟩
theorem dX10_tariff_41 : DI cX10_tariff 41 (.iload 4) 2 43 := ⟨by decide +kernel, rfl⟩
theorem dX10_tariff_43 : DI cX10_tariff 43 (.iconst 0) 1 44 := ⟨by decide +kernel, rfl⟩
theorem dX10_tariff_44 : DI cX10_tariff 44 (.sipush 1000) 3 47 := ⟨by decide +kernel, rfl⟩
theorem dX10_tariff_47 : DI cX10_tariff 47 (.invokestatic 141) 3 50 := ⟨by decide +kernel, rfl⟩
theorem dX10_tariff_50 : DB cX10_tariff 50 (.ifCond .eq 15) (15) 3 53 65 := ⟨by decide +kernel, rfl, by decide⟩
theorem dX10_tariff_53 : DI cX10_tariff 53 (.iload 5) 2 55 := ⟨by decide +kernel, rfl⟩
theorem dX10_tariff_55 : DI cX10_tariff 55 (.iconst 0) 1 56 := ⟨by decide +kernel, rfl⟩
theorem dX10_tariff_56 : DI cX10_tariff 56 (.sipush 1000) 3 59 := ⟨by decide +kernel, rfl⟩
theorem dX10_tariff_59 : DI cX10_tariff 59 (.invokestatic 141) 3 62 := ⟨by decide +kernel, rfl⟩
theorem dX10_tariff_62 : DB cX10_tariff 62 (.ifCond .ne 10) (10) 3 65 72 := ⟨by decide +kernel, rfl, by decide⟩
theorem dX10_tariff_65 : DI cX10_tariff 65 (.aload_n 0) 1 66 := ⟨by decide +kernel, rfl⟩
theorem dX10_tariff_66 : DI cX10_tariff 66 (.iconst 2) 1 67 := ⟨by decide +kernel, rfl⟩
theorem dX10_tariff_67 : DI cX10_tariff 67 (.invokevirtual 158) 3 70 := ⟨by decide +kernel, rfl⟩
theorem dX10_tariff_70 : DI cX10_tariff 70 (.pop) 1 71 := ⟨by decide +kernel, rfl⟩
theorem dX10_tariff_71 : DI cX10_tariff 71 (.return_) 1 72 := ⟨by decide +kernel, rfl⟩
theorem dX10_tariff_72 : DI cX10_tariff 72 (.aload_n 0) 1 73 := ⟨by decide +kernel, rfl⟩
theorem dX10_tariff_73 : DI cX10_tariff 73 (.getfield 60) 3 76 := ⟨by decide +kernel, rfl⟩
theorem dX10_tariff_76 : DI cX10_tariff 76 (.iconst 4) 1 77 := ⟨by decide +kernel, rfl⟩
theorem dX10_tariff_77 : DI cX10_tariff 77 (.iload_n 1) 1 78 := ⟨by decide +kernel, rfl⟩
theorem dX10_tariff_78 : DI cX10_tariff 78 (.imul) 1 79 := ⟨by decide +kernel, rfl⟩
theorem dX10_tariff_79 : DI cX10_tariff 79 (.iload_n 2) 1 80 := ⟨by decide +kernel, rfl⟩
theorem dX10_tariff_80 : DI cX10_tariff 80 (.iastore) 1 81 := ⟨by decide +kernel, rfl⟩
theorem dX10_tariff_81 : DI cX10_tariff 81 (.aload_n 0) 1 82 := ⟨by decide +kernel, rfl⟩
theorem dX10_tariff_82 : DI cX10_tariff 82 (.getfield 60) 3 85 := ⟨by decide +kernel, rfl⟩
theorem dX10_tariff_85 : DI cX10_tariff 85 (.iconst 4) 1 86 := ⟨by decide +kernel, rfl⟩
theorem dX10_tariff_86 : DI cX10_tariff 86 (.iload_n 1) 1 87 := ⟨by decide +kernel, rfl⟩
theorem dX10_tariff_87 : DI cX10_tariff 87 (.imul) 1 88 := ⟨by decide +kernel, rfl⟩
theorem dX10_tariff_88 : DI cX10_tariff 88 (.iconst 1) 1 89 := ⟨by decide +kernel, rfl⟩
theorem dX10_tariff_89 : DI cX10_tariff 89 (.iadd) 1 90 := ⟨by decide +kernel, rfl⟩
theorem dX10_tariff_90 : DI cX10_tariff 90 (.iload_n 3) 1 91 := ⟨by decide +kernel, rfl⟩
theorem dX10_tariff_91 : DI cX10_tariff 91 (.iastore) 1 92 := ⟨by decide +kernel, rfl⟩
theorem dX10_tariff_92 : DI cX10_tariff 92 (.aload_n 0) 1 93 := ⟨by decide +kernel, rfl⟩
theorem dX10_tariff_93 : DI cX10_tariff 93 (.getfield 60) 3 96 := ⟨by decide +kernel, rfl⟩
theorem dX10_tariff_96 : DI cX10_tariff 96 (.iconst 4) 1 97 := ⟨by decide +kernel, rfl⟩
theorem dX10_tariff_97 : DI cX10_tariff 97 (.iload_n 1) 1 98 := ⟨by decide +kernel, rfl⟩
theorem dX10_tariff_98 : DI cX10_tariff 98 (.imul) 1 99 := ⟨by decide +kernel, rfl⟩
theorem dX10_tariff_99 : DI cX10_tariff 99 (.iconst 2) 1 100 := ⟨by decide +kernel, rfl⟩
theorem dX10_tariff_100 : DI cX10_tariff 100 (.iadd) 1 101 := ⟨by decide +kernel, rfl⟩
theorem dX10_tariff_101 : DI cX10_tariff 101 (.iload 4) 2 103 := ⟨by decide +kernel, rfl⟩
theorem dX10_tariff_103 : DI cX10_tariff 103 (.iastore) 1 104 := ⟨by decide +kernel, rfl⟩
theorem dX10_tariff_104 : DI cX10_tariff 104 (.aload_n 0) 1 105 := ⟨by decide +kernel, rfl⟩
theorem dX10_tariff_105 : DI cX10_tariff 105 (.getfield 60) 3 108 := ⟨by decide +kernel, rfl⟩
theorem dX10_tariff_108 : DI cX10_tariff 108 (.iconst 4) 1 109 := ⟨by decide +kernel, rfl⟩
theorem dX10_tariff_109 : DI cX10_tariff 109 (.iload_n 1) 1 110 := ⟨by decide +kernel, rfl⟩
theorem dX10_tariff_110 : DI cX10_tariff 110 (.imul) 1 111 := ⟨by decide +kernel, rfl⟩
theorem dX10_tariff_111 : DI cX10_tariff 111 (.iconst 3) 1 112 := ⟨by decide +kernel, rfl⟩
theorem dX10_tariff_112 : DI cX10_tariff 112 (.iadd) 1 113 := ⟨by decide +kernel, rfl⟩
theorem dX10_tariff_113 : DI cX10_tariff 113 (.iload 5) 2 115 := ⟨by decide +kernel, rfl⟩
theorem dX10_tariff_115 : DI cX10_tariff 115 (.iastore) 1 116 := ⟨by decide +kernel, rfl⟩
theorem dX10_tariff_116 : DI cX10_tariff 116 (.return_) 1 117 := ⟨by decide +kernel, rfl⟩
theorem dX10_goes_0 : DI cX10_goes 0 (.sipush 1500) 3 3 := ⟨by decide +kernel, rfl⟩
theorem dX10_goes_3 : DI cX10_goes 3 (.iload_n 1) 1 4 := ⟨by decide +kernel, rfl⟩
theorem dX10_goes_4 : DI cX10_goes 4 (.imul) 1 5 := ⟨by decide +kernel, rfl⟩
theorem dX10_goes_5 : DI cX10_goes 5 (.aload_n 0) 1 6 := ⟨by decide +kernel, rfl⟩
theorem dX10_goes_6 : DI cX10_goes 6 (.getfield 69) 3 9 := ⟨by decide +kernel, rfl⟩
theorem dX10_goes_9 : DI cX10_goes 9 (.iload_n 1) 1 10 := ⟨by decide +kernel, rfl⟩
theorem dX10_goes_10 : DI cX10_goes 10 (.iaload) 1 11 := ⟨by decide +kernel, rfl⟩
theorem dX10_goes_11 : DI cX10_goes 11 (.iadd) 1 12 := ⟨by decide +kernel, rfl⟩
theorem dX10_goes_12 : DI cX10_goes 12 (.iconst 1) 1 13 := ⟨by decide +kernel, rfl⟩
theorem dX10_goes_13 : DI cX10_goes 13 (.isub) 1 14 := ⟨by decide +kernel, rfl⟩
theorem dX10_goes_14 : DI cX10_goes 14 (.istore_n 3) 1 15 := ⟨by decide +kernel, rfl⟩
theorem dX10_goes_15 : DI cX10_goes 15 (.sipush 1500) 3 18 := ⟨by decide +kernel, rfl⟩
theorem dX10_goes_18 : DI cX10_goes 18 (.iload_n 1) 1 19 := ⟨by decide +kernel, rfl⟩
theorem dX10_goes_19 : DI cX10_goes 19 (.imul) 1 20 := ⟨by decide +kernel, rfl⟩
theorem dX10_goes_20 : DI cX10_goes 20 (.iload_n 2) 1 21 := ⟨by decide +kernel, rfl⟩
theorem dX10_goes_21 : DI cX10_goes 21 (.iadd) 1 22 := ⟨by decide +kernel, rfl⟩
theorem dX10_goes_22 : DI cX10_goes 22 (.istore 4) 2 24 := ⟨by decide +kernel, rfl⟩
theorem dX10_goes_24 : DI cX10_goes 24 (.iload 4) 2 26 := ⟨by decide +kernel, rfl⟩
theorem dX10_goes_26 : DI cX10_goes 26 (.iload_n 3) 1 27 := ⟨by decide +kernel, rfl⟩
theorem dX10_goes_27 : DB cX10_goes 27 (.if_icmp .ge 57) (57) 3 30 84 := ⟨by decide +kernel, rfl, by decide⟩
theorem dX10_goes_30 : DI cX10_goes 30 (.aload_n 0) 1 31 := ⟨by decide +kernel, rfl⟩
theorem dX10_goes_31 : DI cX10_goes 31 (.getfield 72) 3 34 := ⟨by decide +kernel, rfl⟩
theorem dX10_goes_34 : DI cX10_goes 34 (.iload 4) 2 36 := ⟨by decide +kernel, rfl⟩
theorem dX10_goes_36 : DI cX10_goes 36 (.aload_n 0) 1 37 := ⟨by decide +kernel, rfl⟩
theorem dX10_goes_37 : DI cX10_goes 37 (.getfield 72) 3 40 := ⟨by decide +kernel, rfl⟩
theorem dX10_goes_40 : DI cX10_goes 40 (.iload 4) 2 42 := ⟨by decide +kernel, rfl⟩
theorem dX10_goes_42 : DI cX10_goes 42 (.iconst 1) 1 43 := ⟨by decide +kernel, rfl⟩
theorem dX10_goes_43 : DI cX10_goes 43 (.iadd) 1 44 := ⟨by decide +kernel, rfl⟩
theorem dX10_goes_44 : DI cX10_goes 44 (.iaload) 1 45 := ⟨by decide +kernel, rfl⟩
theorem dX10_goes_45 : DI cX10_goes 45 (.iastore) 1 46 := ⟨by decide +kernel, rfl⟩
theorem dX10_goes_46 : DI cX10_goes 46 (.aload_n 0) 1 47 := ⟨by decide +kernel, rfl⟩
theorem dX10_goes_47 : DI cX10_goes 47 (.getfield 75) 3 50 := ⟨by decide +kernel, rfl⟩
theorem dX10_goes_50 : DI cX10_goes 50 (.iload 4) 2 52 := ⟨by decide +kernel, rfl⟩
theorem dX10_goes_52 : DI cX10_goes 52 (.aload_n 0) 1 53 := ⟨by decide +kernel, rfl⟩
theorem dX10_goes_53 : DI cX10_goes 53 (.getfield 75) 3 56 := ⟨by decide +kernel, rfl⟩
theorem dX10_goes_56 : DI cX10_goes 56 (.iload 4) 2 58 := ⟨by decide +kernel, rfl⟩
theorem dX10_goes_58 : DI cX10_goes 58 (.iconst 1) 1 59 := ⟨by decide +kernel, rfl⟩
theorem dX10_goes_59 : DI cX10_goes 59 (.iadd) 1 60 := ⟨by decide +kernel, rfl⟩
theorem dX10_goes_60 : DI cX10_goes 60 (.iaload) 1 61 := ⟨by decide +kernel, rfl⟩
theorem dX10_goes_61 : DI cX10_goes 61 (.iastore) 1 62 := ⟨by decide +kernel, rfl⟩
theorem dX10_goes_62 : DI cX10_goes 62 (.aload_n 0) 1 63 := ⟨by decide +kernel, rfl⟩
theorem dX10_goes_63 : DI cX10_goes 63 (.getfield 78) 3 66 := ⟨by decide +kernel, rfl⟩
theorem dX10_goes_66 : DI cX10_goes 66 (.iload 4) 2 68 := ⟨by decide +kernel, rfl⟩
theorem dX10_goes_68 : DI cX10_goes 68 (.aload_n 0) 1 69 := ⟨by decide +kernel, rfl⟩
theorem dX10_goes_69 : DI cX10_goes 69 (.getfield 78) 3 72 := ⟨by decide +kernel, rfl⟩
theorem dX10_goes_72 : DI cX10_goes 72 (.iload 4) 2 74 := ⟨by decide +kernel, rfl⟩
theorem dX10_goes_74 : DI cX10_goes 74 (.iconst 1) 1 75 := ⟨by decide +kernel, rfl⟩
theorem dX10_goes_75 : DI cX10_goes 75 (.iadd) 1 76 := ⟨by decide +kernel, rfl⟩
theorem dX10_goes_76 : DI cX10_goes 76 (.iaload) 1 77 := ⟨by decide +kernel, rfl⟩
theorem dX10_goes_77 : DI cX10_goes 77 (.iastore) 1 78 := ⟨by decide +kernel, rfl⟩
theorem dX10_goes_78 : DI cX10_goes 78 (.iinc 4 1) 3 81 := ⟨by decide +kernel, rfl⟩
theorem dX10_goes_81 : DB cX10_goes 81 (.goto (-57)) (-57) 3 84 24 := ⟨by decide +kernel, rfl, by decide⟩
theorem dX10_goes_84 : DI cX10_goes 84 (.aload_n 0) 1 85 := ⟨by decide +kernel, rfl⟩
theorem dX10_goes_85 : DI cX10_goes 85 (.getfield 69) 3 88 := ⟨by decide +kernel, rfl⟩
theorem dX10_goes_88 : DI cX10_goes 88 (.iload_n 1) 1 89 := ⟨by decide +kernel, rfl⟩
theorem dX10_goes_89 : DI cX10_goes 89 (.dup2) 1 90 := ⟨by decide +kernel, rfl⟩
theorem dX10_goes_90 : DI cX10_goes 90 (.iaload) 1 91 := ⟨by decide +kernel, rfl⟩
theorem dX10_goes_91 : DI cX10_goes 91 (.iconst 1) 1 92 := ⟨by decide +kernel, rfl⟩
theorem dX10_goes_92 : DI cX10_goes 92 (.isub) 1 93 := ⟨by decide +kernel, rfl⟩
theorem dX10_goes_93 : DI cX10_goes 93 (.iastore) 1 94 := ⟨by decide +kernel, rfl⟩
theorem dX10_goes_94 : DI cX10_goes 94 (.return_) 1 95 := ⟨by decide +kernel, rfl⟩
theorem dX10_book_0 : DI cX10_book 0 (.aload_n 0) 1 1 := ⟨by decide +kernel, rfl⟩
theorem dX10_book_1 : DI cX10_book 1 (.iconst 0) 1 2 := ⟨by decide +kernel, rfl⟩
theorem dX10_book_2 : DI cX10_book 2 (.putfield 138) 3 5 := ⟨by decide +kernel, rfl⟩
theorem dX10_book_5 : DI cX10_book 5 (.aload_n 0) 1 6 := ⟨by decide +kernel, rfl⟩
theorem dX10_book_6 : DI cX10_book 6 (.iload_n 1) 1 7 := ⟨by decide +kernel, rfl⟩
theorem dX10_book_7 : DI cX10_book 7 (.invokevirtual 178) 3 10 := ⟨by decide +kernel, rfl⟩
theorem dX10_book_10 : DB cX10_book 10 (.ifCond .eq 11) (11) 3 13 21 := ⟨by decide +kernel, rfl, by decide⟩
theorem dX10_book_13 : DI cX10_book 13 (.aload_n 0) 1 14 := ⟨by decide +kernel, rfl⟩
theorem dX10_book_14 : DI cX10_book 14 (.iload_n 2) 1 15 := ⟨by decide +kernel, rfl⟩
theorem dX10_book_15 : DI cX10_book 15 (.invokevirtual 167) 3 18 := ⟨by decide +kernel, rfl⟩
theorem dX10_book_18 : DB cX10_book 18 (.ifCond .ne 9) (9) 3 21 27 := ⟨by decide +kernel, rfl, by decide⟩
theorem dX10_book_21 : DI cX10_book 21 (.aload_n 0) 1 22 := ⟨by decide +kernel, rfl⟩
theorem dX10_book_22 : DI cX10_book 22 (.iconst 1) 1 23 := ⟨by decide +kernel, rfl⟩
theorem dX10_book_23 : DI cX10_book 23 (.invokevirtual 158) 3 26 := ⟨by decide +kernel, rfl⟩
theorem dX10_book_26 : DI cX10_book 26 (.ireturn) 1 27 := ⟨by decide +kernel, rfl⟩
theorem dX10_book_27 : DI cX10_book 27 (.iload_n 3) 1 28 := ⟨by decide +kernel, rfl⟩
theorem dX10_book_28 : DI cX10_book 28 (.aload_n 0) 1 29 := ⟨by decide +kernel, rfl⟩
theorem dX10_book_29 : DI cX10_book 29 (.getfield 188) 3 32 := ⟨by decide +kernel, rfl⟩
theorem dX10_book_32 : DI cX10_book 32 (.sipush 20000) 3 35 := ⟨by decide +kernel, rfl⟩
theorem dX10_book_35 : DI cX10_book 35 (.invokestatic 141) 3 38 := ⟨by decide +kernel, rfl⟩
theorem dX10_book_38 : DB cX10_book 38 (.ifCond .eq 16) (16) 3 41 54 := ⟨by decide +kernel, rfl, by decide⟩
theorem dX10_book_41 : DI cX10_book 41 (.iload 4) 2 43 := ⟨by decide +kernel, rfl⟩
theorem dX10_book_43 : DI cX10_book 43 (.bipush 15) 2 45 := ⟨by decide +kernel, rfl⟩
theorem dX10_book_45 : DI cX10_book 45 (.sipush 600) 3 48 := ⟨by decide +kernel, rfl⟩
theorem dX10_book_48 : DI cX10_book 48 (.invokestatic 141) 3 51 := ⟨by decide +kernel, rfl⟩
theorem dX10_book_51 : DB cX10_book 51 (.ifCond .ne 9) (9) 3 54 60 := ⟨by decide +kernel, rfl, by decide⟩
theorem dX10_book_54 : DI cX10_book 54 (.aload_n 0) 1 55 := ⟨by decide +kernel, rfl⟩
theorem dX10_book_55 : DI cX10_book 55 (.iconst 2) 1 56 := ⟨by decide +kernel, rfl⟩
theorem dX10_book_56 : DI cX10_book 56 (.invokevirtual 158) 3 59 := ⟨by decide +kernel, rfl⟩
theorem dX10_book_59 : DI cX10_book 59 (.ireturn) 1 60 := ⟨by decide +kernel, rfl⟩
theorem dX10_book_60 : DI cX10_book 60 (.aload_n 0) 1 61 := ⟨by decide +kernel, rfl⟩
theorem dX10_book_61 : DI cX10_book 61 (.getfield 51) 3 64 := ⟨by decide +kernel, rfl⟩
theorem dX10_book_64 : DI cX10_book 64 (.iload_n 2) 1 65 := ⟨by decide +kernel, rfl⟩
theorem dX10_book_65 : DI cX10_book 65 (.baload) 1 66 := ⟨by decide +kernel, rfl⟩
theorem dX10_book_66 : DI cX10_book 66 (.istore 5) 2 68 := ⟨by decide +kernel, rfl⟩
theorem dX10_book_68 : DI cX10_book 68 (.sipush 1500) 3 71 := ⟨by decide +kernel, rfl⟩
theorem dX10_book_71 : DI cX10_book 71 (.iload_n 1) 1 72 := ⟨by decide +kernel, rfl⟩
theorem dX10_book_72 : DI cX10_book 72 (.imul) 1 73 := ⟨by decide +kernel, rfl⟩
theorem dX10_book_73 : DI cX10_book 73 (.istore 6) 2 75 := ⟨by decide +kernel, rfl⟩
theorem dX10_book_75 : DI cX10_book 75 (.iload 6) 2 77 := ⟨by decide +kernel, rfl⟩
theorem dX10_book_77 : DI cX10_book 77 (.sipush 1500) 3 80 := ⟨by decide +kernel, rfl⟩
theorem dX10_book_80 : DI cX10_book 80 (.iload_n 1) 1 81 := ⟨by decide +kernel, rfl⟩
theorem dX10_book_81 : DI cX10_book 81 (.imul) 1 82 := ⟨by decide +kernel, rfl⟩
theorem dX10_book_82 : DI cX10_book 82 (.aload_n 0) 1 83 := ⟨by decide +kernel, rfl⟩
theorem dX10_book_83 : DI cX10_book 83 (.getfield 69) 3 86 := ⟨by decide +kernel, rfl⟩
theorem dX10_book_86 : DI cX10_book 86 (.iload_n 1) 1 87 := ⟨by decide +kernel, rfl⟩
theorem dX10_book_87 : DI cX10_book 87 (.iaload) 1 88 := ⟨by decide +kernel, rfl⟩
theorem dX10_book_88 : DI cX10_book 88 (.iadd) 1 89 := ⟨by decide +kernel, rfl⟩
theorem dX10_book_89 : DB cX10_book 89 (.if_icmp .ge 46) (46) 3 92 135 := ⟨by decide +kernel, rfl, by decide⟩
theorem dX10_book_92 : DI cX10_book 92 (.iload 5) 2 94 := ⟨by decide +kernel, rfl⟩
theorem dX10_book_94 : DB cX10_book 94 (.ifCond .eq 32) (32) 3 97 126 := ⟨by decide +kernel, rfl, by decide⟩
theorem dX10_book_97 : DI cX10_book 97 (.iload_n 3) 1 98 := ⟨by decide +kernel, rfl⟩
theorem dX10_book_98 : DI cX10_book 98 (.aload_n 0) 1 99 := ⟨by decide +kernel, rfl⟩
theorem dX10_book_99 : DI cX10_book 99 (.getfield 78) 3 102 := ⟨by decide +kernel, rfl⟩
theorem dX10_book_102 : DI cX10_book 102 (.iload 6) 2 104 := ⟨by decide +kernel, rfl⟩
theorem dX10_book_104 : DI cX10_book 104 (.iaload) 1 105 := ⟨by decide +kernel, rfl⟩
theorem dX10_book_105 : DB cX10_book 105 (.if_icmp .ge 17) (17) 3 108 122 := ⟨by decide +kernel, rfl, by decide⟩
theorem dX10_book_108 : DI cX10_book 108 (.iload_n 3) 1 109 := ⟨by decide +kernel, rfl⟩
theorem dX10_book_109 : DI cX10_book 109 (.iload 4) 2 111 := ⟨by decide +kernel, rfl⟩
theorem dX10_book_111 : DI cX10_book 111 (.iadd) 1 112 := ⟨by decide +kernel, rfl⟩
theorem dX10_book_112 : DI cX10_book 112 (.aload_n 0) 1 113 := ⟨by decide +kernel, rfl⟩
theorem dX10_book_113 : DI cX10_book 113 (.getfield 75) 3 116 := ⟨by decide +kernel, rfl⟩
theorem dX10_book_116 : DI cX10_book 116 (.iload 6) 2 118 := ⟨by decide +kernel, rfl⟩
theorem dX10_book_118 : DI cX10_book 118 (.iaload) 1 119 := ⟨by decide +kernel, rfl⟩
theorem dX10_book_119 : DB cX10_book 119 (.if_icmp .gt 7) (7) 3 122 126 := ⟨by decide +kernel, rfl, by decide⟩
theorem dX10_book_122 : DI cX10_book 122 (.iconst 1) 1 123 := ⟨by decide +kernel, rfl⟩
theorem dX10_book_123 : DB cX10_book 123 (.goto 4) (4) 3 126 127 := ⟨by decide +kernel, rfl, by decide⟩
theorem dX10_book_126 : DI cX10_book 126 (.iconst 0) 1 127 := ⟨by decide +kernel, rfl⟩
theorem dX10_book_127 : DI cX10_book 127 (.istore 5) 2 129 := ⟨by decide +kernel, rfl⟩
theorem dX10_book_129 : DI cX10_book 129 (.iinc 6 1) 3 132 := ⟨by decide +kernel, rfl⟩
theorem dX10_book_132 : DB cX10_book 132 (.goto (-57)) (-57) 3 135 75 := ⟨by decide +kernel, rfl, by decide⟩
theorem dX10_book_135 : DI cX10_book 135 (.iload 5) 2 137 := ⟨by decide +kernel, rfl⟩
theorem dX10_book_137 : DB cX10_book 137 (.ifCond .ne 9) (9) 3 140 146 := ⟨by decide +kernel, rfl, by decide⟩
theorem dX10_book_140 : DI cX10_book 140 (.aload_n 0) 1 141 := ⟨by decide +kernel, rfl⟩
theorem dX10_book_141 : DI cX10_book 141 (.iconst 3) 1 142 := ⟨by decide +kernel, rfl⟩
theorem dX10_book_142 : DI cX10_book 142 (.invokevirtual 158) 3 145 := ⟨by decide +kernel, rfl⟩
theorem dX10_book_145 : DI cX10_book 145 (.ireturn) 1 146 := ⟨by decide +kernel, rfl⟩
theorem dX10_book_146 : DI cX10_book 146 (.sipush 1500) 3 149 := ⟨by decide +kernel, rfl⟩
theorem dX10_book_149 : DI cX10_book 149 (.iload_n 1) 1 150 := ⟨by decide +kernel, rfl⟩
theorem dX10_book_150 : DI cX10_book 150 (.imul) 1 151 := ⟨by decide +kernel, rfl⟩
theorem dX10_book_151 : DI cX10_book 151 (.aload_n 0) 1 152 := ⟨by decide +kernel, rfl⟩
theorem dX10_book_152 : DI cX10_book 152 (.getfield 69) 3 155 := ⟨by decide +kernel, rfl⟩
theorem dX10_book_155 : DI cX10_book 155 (.iload_n 1) 1 156 := ⟨by decide +kernel, rfl⟩
theorem dX10_book_156 : DI cX10_book 156 (.iaload) 1 157 := ⟨by decide +kernel, rfl⟩
theorem dX10_book_157 : DI cX10_book 157 (.iadd) 1 158 := ⟨by decide +kernel, rfl⟩
theorem dX10_book_158 : DI cX10_book 158 (.istore 6) 2 160 := ⟨by decide +kernel, rfl⟩
theorem dX10_book_160 : DI cX10_book 160 (.aload_n 0) 1 161 := ⟨by decide +kernel, rfl⟩
theorem dX10_book_161 : DI cX10_book 161 (.getfield 72) 3 164 := ⟨by decide +kernel, rfl⟩
theorem dX10_book_164 : DI cX10_book 164 (.iload 6) 2 166 := ⟨by decide +kernel, rfl⟩
theorem dX10_book_166 : DI cX10_book 166 (.iload_n 2) 1 167 := ⟨by decide +kernel, rfl⟩
theorem dX10_book_167 : DI cX10_book 167 (.iastore) 1 168 := ⟨by decide +kernel, rfl⟩
theorem dX10_book_168 : DI cX10_book 168 (.aload_n 0) 1 169 := ⟨by decide +kernel, rfl⟩
theorem dX10_book_169 : DI cX10_book 169 (.getfield 75) 3 172 := ⟨by decide +kernel, rfl⟩
theorem dX10_book_172 : DI cX10_book 172 (.iload 6) 2 174 := ⟨by decide +kernel, rfl⟩
theorem dX10_book_174 : DI cX10_book 174 (.iload_n 3) 1 175 := ⟨by decide +kernel, rfl⟩
theorem dX10_book_175 : DI cX10_book 175 (.iastore) 1 176 := ⟨by decide +kernel, rfl⟩
theorem dX10_book_176 : DI cX10_book 176 (.aload_n 0) 1 177 := ⟨by decide +kernel, rfl⟩
theorem dX10_book_177 : DI cX10_book 177 (.getfield 78) 3 180 := ⟨by decide +kernel, rfl⟩
theorem dX10_book_180 : DI cX10_book 180 (.iload 6) 2 182 := ⟨by decide +kernel, rfl⟩
theorem dX10_book_182 : DI cX10_book 182 (.iload_n 3) 1 183 := ⟨by decide +kernel, rfl⟩
theorem dX10_book_183 : DI cX10_book 183 (.iload 4) 2 185 := ⟨by decide +kernel, rfl⟩
theorem dX10_book_185 : DI cX10_book 185 (.iadd) 1 186 := ⟨by decide +kernel, rfl⟩
theorem dX10_book_186 : DI cX10_book 186 (.iastore) 1 187 := ⟨by decide +kernel, rfl⟩
theorem dX10_book_187 : DI cX10_book 187 (.aload_n 0) 1 188 := ⟨by decide +kernel, rfl⟩
theorem dX10_book_188 : DI cX10_book 188 (.getfield 69) 3 191 := ⟨by decide +kernel, rfl⟩
theorem dX10_book_191 : DI cX10_book 191 (.iload_n 1) 1 192 := ⟨by decide +kernel, rfl⟩
theorem dX10_book_192 : DI cX10_book 192 (.dup2) 1 193 := ⟨by decide +kernel, rfl⟩
theorem dX10_book_193 : DI cX10_book 193 (.iaload) 1 194 := ⟨by decide +kernel, rfl⟩
theorem dX10_book_194 : DI cX10_book 194 (.iconst 1) 1 195 := ⟨by decide +kernel, rfl⟩
theorem dX10_book_195 : DI cX10_book 195 (.iadd) 1 196 := ⟨by decide +kernel, rfl⟩
theorem dX10_book_196 : DI cX10_book 196 (.iastore) 1 197 := ⟨by decide +kernel, rfl⟩
theorem dX10_book_197 : DI cX10_book 197 (.aload_n 0) 1 198 := ⟨by decide +kernel, rfl⟩
theorem dX10_book_198 : DI cX10_book 198 (.getfield 69) 3 201 := ⟨by decide +kernel, rfl⟩
theorem dX10_book_201 : DI cX10_book 201 (.iload_n 1) 1 202 := ⟨by decide +kernel, rfl⟩
theorem dX10_book_202 : DI cX10_book 202 (.iaload) 1 203 := ⟨by decide +kernel, rfl⟩
theorem dX10_book_203 : DI cX10_book 203 (.ireturn) 1 204 := ⟨by decide +kernel, rfl⟩
theorem dX10_holding_0 : DI cX10_holding 0 (.iconst 0) 1 1 := ⟨by decide +kernel, rfl⟩
theorem dX10_holding_1 : DI cX10_holding 1 (.istore_n 2) 1 2 := ⟨by decide +kernel, rfl⟩
theorem dX10_holding_2 : DI cX10_holding 2 (.iload_n 2) 1 3 := ⟨by decide +kernel, rfl⟩
theorem dX10_holding_3 : DI cX10_holding 3 (.aload_n 0) 1 4 := ⟨by decide +kernel, rfl⟩
theorem dX10_holding_4 : DI cX10_holding 4 (.getfield 69) 3 7 := ⟨by decide +kernel, rfl⟩
theorem dX10_holding_7 : DI cX10_holding 7 (.iload_n 1) 1 8 := ⟨by decide +kernel, rfl⟩
theorem dX10_holding_8 : DI cX10_holding 8 (.iaload) 1 9 := ⟨by decide +kernel, rfl⟩
theorem dX10_holding_9 : DB cX10_holding 9 (.if_icmp .ge 30) (30) 3 12 39 := ⟨by decide +kernel, rfl, by decide⟩
theorem dX10_holding_12 : DI cX10_holding 12 (.aload_n 0) 1 13 := ⟨by decide +kernel, rfl⟩
theorem dX10_holding_13 : DI cX10_holding 13 (.getfield 75) 3 16 := ⟨by decide +kernel, rfl⟩
theorem dX10_holding_16 : DI cX10_holding 16 (.sipush 1500) 3 19 := ⟨by decide +kernel, rfl⟩
theorem dX10_holding_19 : DI cX10_holding 19 (.iload_n 1) 1 20 := ⟨by decide +kernel, rfl⟩
theorem dX10_holding_20 : DI cX10_holding 20 (.imul) 1 21 := ⟨by decide +kernel, rfl⟩
theorem dX10_holding_21 : DI cX10_holding 21 (.iload_n 2) 1 22 := ⟨by decide +kernel, rfl⟩
theorem dX10_holding_22 : DI cX10_holding 22 (.iadd) 1 23 := ⟨by decide +kernel, rfl⟩
theorem dX10_holding_23 : DI cX10_holding 23 (.iaload) 1 24 := ⟨by decide +kernel, rfl⟩
theorem dX10_holding_24 : DI cX10_holding 24 (.aload_n 0) 1 25 := ⟨by decide +kernel, rfl⟩
theorem dX10_holding_25 : DI cX10_holding 25 (.getfield 188) 3 28 := ⟨by decide +kernel, rfl⟩
theorem dX10_holding_28 : DB cX10_holding 28 (.if_icmp .gt 5) (5) 3 31 33 := ⟨by decide +kernel, rfl, by decide⟩
theorem dX10_holding_31 : DI cX10_holding 31 (.iload_n 2) 1 32 := ⟨by decide +kernel, rfl⟩
theorem dX10_holding_32 : DI cX10_holding 32 (.ireturn) 1 33 := ⟨by decide +kernel, rfl⟩
theorem dX10_holding_33 : DI cX10_holding 33 (.iinc 2 1) 3 36 := ⟨by decide +kernel, rfl⟩
theorem dX10_holding_36 : DB cX10_holding 36 (.goto (-34)) (-34) 3 39 2 := ⟨by decide +kernel, rfl, by decide⟩
theorem dX10_holding_39 : DI cX10_holding 39 (.iconst (-1)) 1 40 := ⟨by decide +kernel, rfl⟩
theorem dX10_holding_40 : DI cX10_holding 40 (.ireturn) 1 41 := ⟨by decide +kernel, rfl⟩
theorem dX10_lateGo_0 : DI cX10_lateGo 0 (.iconst 0) 1 1 := ⟨by decide +kernel, rfl⟩
theorem dX10_lateGo_1 : DI cX10_lateGo 1 (.istore_n 1) 1 2 := ⟨by decide +kernel, rfl⟩
theorem dX10_lateGo_2 : DI cX10_lateGo 2 (.iload_n 1) 1 3 := ⟨by decide +kernel, rfl⟩
theorem dX10_lateGo_3 : DI cX10_lateGo 3 (.aload_n 0) 1 4 := ⟨by decide +kernel, rfl⟩
theorem dX10_lateGo_4 : DI cX10_lateGo 4 (.getfield 145) 3 7 := ⟨by decide +kernel, rfl⟩
theorem dX10_lateGo_7 : DB cX10_lateGo 7 (.if_icmp .ge 56) (56) 3 10 63 := ⟨by decide +kernel, rfl, by decide⟩
theorem dX10_lateGo_10 : DI cX10_lateGo 10 (.aload_n 0) 1 11 := ⟨by decide +kernel, rfl⟩
theorem dX10_lateGo_11 : DI cX10_lateGo 11 (.getfield 69) 3 14 := ⟨by decide +kernel, rfl⟩
theorem dX10_lateGo_14 : DI cX10_lateGo 14 (.iload_n 1) 1 15 := ⟨by decide +kernel, rfl⟩
theorem dX10_lateGo_15 : DI cX10_lateGo 15 (.iaload) 1 16 := ⟨by decide +kernel, rfl⟩
theorem dX10_lateGo_16 : DI cX10_lateGo 16 (.iconst 1) 1 17 := ⟨by decide +kernel, rfl⟩
theorem dX10_lateGo_17 : DI cX10_lateGo 17 (.isub) 1 18 := ⟨by decide +kernel, rfl⟩
theorem dX10_lateGo_18 : DI cX10_lateGo 18 (.istore_n 2) 1 19 := ⟨by decide +kernel, rfl⟩
theorem dX10_lateGo_19 : DI cX10_lateGo 19 (.iload_n 2) 1 20 := ⟨by decide +kernel, rfl⟩
theorem dX10_lateGo_20 : DB cX10_lateGo 20 (.ifCond .lt 37) (37) 3 23 57 := ⟨by decide +kernel, rfl, by decide⟩
theorem dX10_lateGo_23 : DI cX10_lateGo 23 (.aload_n 0) 1 24 := ⟨by decide +kernel, rfl⟩
theorem dX10_lateGo_24 : DI cX10_lateGo 24 (.getfield 75) 3 27 := ⟨by decide +kernel, rfl⟩
theorem dX10_lateGo_27 : DI cX10_lateGo 27 (.sipush 1500) 3 30 := ⟨by decide +kernel, rfl⟩
theorem dX10_lateGo_30 : DI cX10_lateGo 30 (.iload_n 1) 1 31 := ⟨by decide +kernel, rfl⟩
theorem dX10_lateGo_31 : DI cX10_lateGo 31 (.imul) 1 32 := ⟨by decide +kernel, rfl⟩
theorem dX10_lateGo_32 : DI cX10_lateGo 32 (.iload_n 2) 1 33 := ⟨by decide +kernel, rfl⟩
theorem dX10_lateGo_33 : DI cX10_lateGo 33 (.iadd) 1 34 := ⟨by decide +kernel, rfl⟩
theorem dX10_lateGo_34 : DI cX10_lateGo 34 (.iaload) 1 35 := ⟨by decide +kernel, rfl⟩
theorem dX10_lateGo_35 : DI cX10_lateGo 35 (.bipush 15) 2 37 := ⟨by decide +kernel, rfl⟩
theorem dX10_lateGo_37 : DI cX10_lateGo 37 (.iadd) 1 38 := ⟨by decide +kernel, rfl⟩
theorem dX10_lateGo_38 : DI cX10_lateGo 38 (.aload_n 0) 1 39 := ⟨by decide +kernel, rfl⟩
theorem dX10_lateGo_39 : DI cX10_lateGo 39 (.getfield 188) 3 42 := ⟨by decide +kernel, rfl⟩
theorem dX10_lateGo_42 : DB cX10_lateGo 42 (.if_icmp .gt 9) (9) 3 45 51 := ⟨by decide +kernel, rfl, by decide⟩
theorem dX10_lateGo_45 : DI cX10_lateGo 45 (.aload_n 0) 1 46 := ⟨by decide +kernel, rfl⟩
theorem dX10_lateGo_46 : DI cX10_lateGo 46 (.iload_n 1) 1 47 := ⟨by decide +kernel, rfl⟩
theorem dX10_lateGo_47 : DI cX10_lateGo 47 (.iload_n 2) 1 48 := ⟨by decide +kernel, rfl⟩
theorem dX10_lateGo_48 : DI cX10_lateGo 48 (.invokevirtual 191) 3 51 := ⟨by decide +kernel, rfl⟩
theorem dX10_lateGo_51 : DI cX10_lateGo 51 (.iinc 2 (-1)) 3 54 := ⟨by decide +kernel, rfl⟩
theorem dX10_lateGo_54 : DB cX10_lateGo 54 (.goto (-35)) (-35) 3 57 19 := ⟨by decide +kernel, rfl, by decide⟩
theorem dX10_lateGo_57 : DI cX10_lateGo 57 (.iinc 1 1) 3 60 := ⟨by decide +kernel, rfl⟩
theorem dX10_lateGo_60 : DB cX10_lateGo 60 (.goto (-58)) (-58) 3 63 2 := ⟨by decide +kernel, rfl, by decide⟩
theorem dX10_lateGo_63 : DI cX10_lateGo 63 (.return_) 1 64 := ⟨by decide +kernel, rfl⟩
theorem dX10_isAway_0 : DI cX10_isAway 0 (.iconst 0) 1 1 := ⟨by decide +kernel, rfl⟩
theorem dX10_isAway_1 : DI cX10_isAway 1 (.istore_n 2) 1 2 := ⟨by decide +kernel, rfl⟩
theorem dX10_isAway_2 : DI cX10_isAway 2 (.iconst 0) 1 3 := ⟨by decide +kernel, rfl⟩
theorem dX10_isAway_3 : DI cX10_isAway 3 (.istore_n 3) 1 4 := ⟨by decide +kernel, rfl⟩
theorem dX10_isAway_4 : DI cX10_isAway 4 (.iload_n 3) 1 5 := ⟨by decide +kernel, rfl⟩
theorem dX10_isAway_5 : DI cX10_isAway 5 (.aload_n 0) 1 6 := ⟨by decide +kernel, rfl⟩
theorem dX10_isAway_6 : DI cX10_isAway 6 (.getfield 151) 3 9 := ⟨by decide +kernel, rfl⟩
theorem dX10_isAway_9 : DB cX10_isAway 9 (.if_icmp .ge 37) (37) 3 12 46 := ⟨by decide +kernel, rfl, by decide⟩
theorem dX10_isAway_12 : DI cX10_isAway 12 (.iload_n 2) 1 13 := ⟨by decide +kernel, rfl⟩
theorem dX10_isAway_13 : DI cX10_isAway 13 (.aload_n 0) 1 14 := ⟨by decide +kernel, rfl⟩
theorem dX10_isAway_14 : DI cX10_isAway 14 (.getfield 90) 3 17 := ⟨by decide +kernel, rfl⟩
theorem dX10_isAway_17 : DI cX10_isAway 17 (.iload_n 3) 1 18 := ⟨by decide +kernel, rfl⟩
theorem dX10_isAway_18 : DI cX10_isAway 18 (.iaload) 1 19 := ⟨by decide +kernel, rfl⟩
theorem dX10_isAway_19 : DI cX10_isAway 19 (.iconst 1) 1 20 := ⟨by decide +kernel, rfl⟩
theorem dX10_isAway_20 : DB cX10_isAway 20 (.if_icmp .ne 17) (17) 3 23 37 := ⟨by decide +kernel, rfl, by decide⟩
theorem dX10_isAway_23 : DI cX10_isAway 23 (.aload_n 0) 1 24 := ⟨by decide +kernel, rfl⟩
theorem dX10_isAway_24 : DI cX10_isAway 24 (.getfield 84) 3 27 := ⟨by decide +kernel, rfl⟩
theorem dX10_isAway_27 : DI cX10_isAway 27 (.iload_n 3) 1 28 := ⟨by decide +kernel, rfl⟩
theorem dX10_isAway_28 : DI cX10_isAway 28 (.iaload) 1 29 := ⟨by decide +kernel, rfl⟩
theorem dX10_isAway_29 : DI cX10_isAway 29 (.iload_n 1) 1 30 := ⟨by decide +kernel, rfl⟩
theorem dX10_isAway_30 : DB cX10_isAway 30 (.if_icmp .ne 7) (7) 3 33 37 := ⟨by decide +kernel, rfl, by decide⟩
theorem dX10_isAway_33 : DI cX10_isAway 33 (.iconst 1) 1 34 := ⟨by decide +kernel, rfl⟩
theorem dX10_isAway_34 : DB cX10_isAway 34 (.goto 4) (4) 3 37 38 := ⟨by decide +kernel, rfl, by decide⟩
theorem dX10_isAway_37 : DI cX10_isAway 37 (.iconst 0) 1 38 := ⟨by decide +kernel, rfl⟩
theorem dX10_isAway_38 : DI cX10_isAway 38 (.ior) 1 39 := ⟨by decide +kernel, rfl⟩
theorem dX10_isAway_39 : DI cX10_isAway 39 (.istore_n 2) 1 40 := ⟨by decide +kernel, rfl⟩
theorem dX10_isAway_40 : DI cX10_isAway 40 (.iinc 3 1) 3 43 := ⟨by decide +kernel, rfl⟩
theorem dX10_isAway_43 : DB cX10_isAway 43 (.goto (-39)) (-39) 3 46 4 := ⟨by decide +kernel, rfl, by decide⟩
theorem dX10_isAway_46 : DI cX10_isAway 46 (.iload_n 2) 1 47 := ⟨by decide +kernel, rfl⟩
theorem dX10_isAway_47 : DI cX10_isAway 47 (.ireturn) 1 48 := ⟨by decide +kernel, rfl⟩
theorem dX10_plug_0 : DI cX10_plug 0 (.aload_n 0) 1 1 := ⟨by decide +kernel, rfl⟩
theorem dX10_plug_1 : DI cX10_plug 1 (.iconst 0) 1 2 := ⟨by decide +kernel, rfl⟩
theorem dX10_plug_2 : DI cX10_plug 2 (.putfield 138) 3 5 := ⟨by decide +kernel, rfl⟩
theorem dX10_plug_5 : DI cX10_plug 5 (.aload_n 0) 1 6 := ⟨by decide +kernel, rfl⟩
theorem dX10_plug_6 : DI cX10_plug 6 (.iload_n 1) 1 7 := ⟨by decide +kernel, rfl⟩
theorem dX10_plug_7 : DI cX10_plug 7 (.invokevirtual 178) 3 10 := ⟨by decide +kernel, rfl⟩
theorem dX10_plug_10 : DB cX10_plug 10 (.ifCond .eq 25) (25) 3 13 35 := ⟨by decide +kernel, rfl, by decide⟩
theorem dX10_plug_13 : DI cX10_plug 13 (.iload_n 2) 1 14 := ⟨by decide +kernel, rfl⟩
theorem dX10_plug_14 : DI cX10_plug 14 (.iconst 0) 1 15 := ⟨by decide +kernel, rfl⟩
theorem dX10_plug_15 : DI cX10_plug 15 (.aload_n 0) 1 16 := ⟨by decide +kernel, rfl⟩
theorem dX10_plug_16 : DI cX10_plug 16 (.getfield 164) 3 19 := ⟨by decide +kernel, rfl⟩
theorem dX10_plug_19 : DI cX10_plug 19 (.iconst 1) 1 20 := ⟨by decide +kernel, rfl⟩
theorem dX10_plug_20 : DI cX10_plug 20 (.isub) 1 21 := ⟨by decide +kernel, rfl⟩
theorem dX10_plug_21 : DI cX10_plug 21 (.invokestatic 141) 3 24 := ⟨by decide +kernel, rfl⟩
theorem dX10_plug_24 : DB cX10_plug 24 (.ifCond .eq 11) (11) 3 27 35 := ⟨by decide +kernel, rfl, by decide⟩
theorem dX10_plug_27 : DI cX10_plug 27 (.aload_n 0) 1 28 := ⟨by decide +kernel, rfl⟩
theorem dX10_plug_28 : DI cX10_plug 28 (.iload_n 3) 1 29 := ⟨by decide +kernel, rfl⟩
theorem dX10_plug_29 : DI cX10_plug 29 (.invokevirtual 167) 3 32 := ⟨by decide +kernel, rfl⟩
theorem dX10_plug_32 : DB cX10_plug 32 (.ifCond .ne 9) (9) 3 35 41 := ⟨by decide +kernel, rfl, by decide⟩
theorem dX10_plug_35 : DI cX10_plug 35 (.aload_n 0) 1 36 := ⟨by decide +kernel, rfl⟩
theorem dX10_plug_36 : DI cX10_plug 36 (.iconst 1) 1 37 := ⟨by decide +kernel, rfl⟩
theorem dX10_plug_37 : DI cX10_plug 37 (.invokevirtual 158) 3 40 := ⟨by decide +kernel, rfl⟩
theorem dX10_plug_40 : DI cX10_plug 40 (.ireturn) 1 41 := ⟨by decide +kernel, rfl⟩
theorem dX10_plug_41 : DI cX10_plug 41 (.aload_n 0) 1 42 := ⟨by decide +kernel, rfl⟩
theorem dX10_plug_42 : DI cX10_plug 42 (.getfield 151) 3 45 := ⟨by decide +kernel, rfl⟩
theorem dX10_plug_45 : DI cX10_plug 45 (.bipush 40) 2 47 := ⟨by decide +kernel, rfl⟩
theorem dX10_plug_47 : DB cX10_plug 47 (.if_icmp .ne 9) (9) 3 50 56 := ⟨by decide +kernel, rfl, by decide⟩
theorem dX10_plug_50 : DI cX10_plug 50 (.aload_n 0) 1 51 := ⟨by decide +kernel, rfl⟩
theorem dX10_plug_51 : DI cX10_plug 51 (.iconst 2) 1 52 := ⟨by decide +kernel, rfl⟩
theorem dX10_plug_52 : DI cX10_plug 52 (.invokevirtual 158) 3 55 := ⟨by decide +kernel, rfl⟩
theorem dX10_plug_55 : DI cX10_plug 55 (.ireturn) 1 56 := ⟨by decide +kernel, rfl⟩
theorem dX10_plug_56 : DI cX10_plug 56 (.aload_n 0) 1 57 := ⟨by decide +kernel, rfl⟩
theorem dX10_plug_57 : DI cX10_plug 57 (.getfield 23) 3 60 := ⟨by decide +kernel, rfl⟩
theorem dX10_plug_60 : DI cX10_plug 60 (.iload_n 1) 1 61 := ⟨by decide +kernel, rfl⟩
theorem dX10_plug_61 : DI cX10_plug 61 (.baload) 1 62 := ⟨by decide +kernel, rfl⟩
theorem dX10_plug_62 : DB cX10_plug 62 (.ifCond .eq 5) (5) 3 65 67 := ⟨by decide +kernel, rfl, by decide⟩
theorem dX10_plug_65 : DI cX10_plug 65 (.iconst (-1)) 1 66 := ⟨by decide +kernel, rfl⟩
theorem dX10_plug_66 : DI cX10_plug 66 (.ireturn) 1 67 := ⟨by decide +kernel, rfl⟩
theorem dX10_plug_67 : DI cX10_plug 67 (.aload_n 0) 1 68 := ⟨by decide +kernel, rfl⟩
theorem dX10_plug_68 : DI cX10_plug 68 (.getfield 33) 3 71 := ⟨by decide +kernel, rfl⟩
theorem dX10_plug_71 : DI cX10_plug 71 (.iload_n 1) 1 72 := ⟨by decide +kernel, rfl⟩
theorem dX10_plug_72 : DI cX10_plug 72 (.iaload) 1 73 := ⟨by decide +kernel, rfl⟩
theorem dX10_plug_73 : DI cX10_plug 73 (.iconst (-1)) 1 74 := ⟨by decide +kernel, rfl⟩
theorem dX10_plug_74 : DB cX10_plug 74 (.if_icmp .eq 6) (6) 3 77 80 := ⟨by decide +kernel, rfl, by decide⟩
theorem dX10_plug_77 : DI cX10_plug 77 (.bipush (-2)) 2 79 := ⟨by decide +kernel, rfl⟩
theorem dX10_plug_79 : DI cX10_plug 79 (.ireturn) 1 80 := ⟨by decide +kernel, rfl⟩
theorem dX10_plug_80 : DI cX10_plug 80 (.aload_n 0) 1 81 := ⟨by decide +kernel, rfl⟩
theorem dX10_plug_81 : DI cX10_plug 81 (.getfield 51) 3 84 := ⟨by decide +kernel, rfl⟩
theorem dX10_plug_84 : DI cX10_plug 84 (.iload_n 3) 1 85 := ⟨by decide +kernel, rfl⟩
theorem dX10_plug_85 : DI cX10_plug 85 (.baload) 1 86 := ⟨by decide +kernel, rfl⟩
theorem dX10_plug_86 : DB cX10_plug 86 (.ifCond .eq 21) (21) 3 89 107 := ⟨by decide +kernel, rfl, by decide⟩
theorem dX10_plug_89 : DI cX10_plug 89 (.aload_n 0) 1 90 := ⟨by decide +kernel, rfl⟩
theorem dX10_plug_90 : DI cX10_plug 90 (.getfield 27) 3 93 := ⟨by decide +kernel, rfl⟩
theorem dX10_plug_93 : DI cX10_plug 93 (.iload_n 1) 1 94 := ⟨by decide +kernel, rfl⟩
theorem dX10_plug_94 : DI cX10_plug 94 (.baload) 1 95 := ⟨by decide +kernel, rfl⟩
theorem dX10_plug_95 : DB cX10_plug 95 (.ifCond .eq 15) (15) 3 98 110 := ⟨by decide +kernel, rfl, by decide⟩
theorem dX10_plug_98 : DI cX10_plug 98 (.aload_n 0) 1 99 := ⟨by decide +kernel, rfl⟩
theorem dX10_plug_99 : DI cX10_plug 99 (.getfield 54) 3 102 := ⟨by decide +kernel, rfl⟩
theorem dX10_plug_102 : DI cX10_plug 102 (.iload_n 3) 1 103 := ⟨by decide +kernel, rfl⟩
theorem dX10_plug_103 : DI cX10_plug 103 (.baload) 1 104 := ⟨by decide +kernel, rfl⟩
theorem dX10_plug_104 : DB cX10_plug 104 (.ifCond .ne 6) (6) 3 107 110 := ⟨by decide +kernel, rfl, by decide⟩
theorem dX10_plug_107 : DI cX10_plug 107 (.bipush (-3)) 2 109 := ⟨by decide +kernel, rfl⟩
theorem dX10_plug_109 : DI cX10_plug 109 (.ireturn) 1 110 := ⟨by decide +kernel, rfl⟩
theorem dX10_plug_110 : DI cX10_plug 110 (.aload_n 0) 1 111 := ⟨by decide +kernel, rfl⟩
theorem dX10_plug_111 : DI cX10_plug 111 (.iload_n 1) 1 112 := ⟨by decide +kernel, rfl⟩
theorem dX10_plug_112 : DI cX10_plug 112 (.invokevirtual 195) 3 115 := ⟨by decide +kernel, rfl⟩
theorem dX10_plug_115 : DI cX10_plug 115 (.istore 4) 2 117 := ⟨by decide +kernel, rfl⟩
theorem dX10_plug_117 : DI cX10_plug 117 (.iload 4) 2 119 := ⟨by decide +kernel, rfl⟩
theorem dX10_plug_119 : DI cX10_plug 119 (.iconst (-1)) 1 120 := ⟨by decide +kernel, rfl⟩
theorem dX10_plug_120 : DB cX10_plug 120 (.if_icmp .eq 23) (23) 3 123 143 := ⟨by decide +kernel, rfl, by decide⟩
theorem dX10_plug_123 : DI cX10_plug 123 (.aload_n 0) 1 124 := ⟨by decide +kernel, rfl⟩
theorem dX10_plug_124 : DI cX10_plug 124 (.getfield 72) 3 127 := ⟨by decide +kernel, rfl⟩
theorem dX10_plug_127 : DI cX10_plug 127 (.sipush 1500) 3 130 := ⟨by decide +kernel, rfl⟩
theorem dX10_plug_130 : DI cX10_plug 130 (.iload_n 1) 1 131 := ⟨by decide +kernel, rfl⟩
theorem dX10_plug_131 : DI cX10_plug 131 (.imul) 1 132 := ⟨by decide +kernel, rfl⟩
theorem dX10_plug_132 : DI cX10_plug 132 (.iload 4) 2 134 := ⟨by decide +kernel, rfl⟩
theorem dX10_plug_134 : DI cX10_plug 134 (.iadd) 1 135 := ⟨by decide +kernel, rfl⟩
theorem dX10_plug_135 : DI cX10_plug 135 (.iaload) 1 136 := ⟨by decide +kernel, rfl⟩
theorem dX10_plug_136 : DI cX10_plug 136 (.iload_n 3) 1 137 := ⟨by decide +kernel, rfl⟩
theorem dX10_plug_137 : DB cX10_plug 137 (.if_icmp .eq 6) (6) 3 140 143 := ⟨by decide +kernel, rfl, by decide⟩
theorem dX10_plug_140 : DI cX10_plug 140 (.bipush (-4)) 2 142 := ⟨by decide +kernel, rfl⟩
theorem dX10_plug_142 : DI cX10_plug 142 (.ireturn) 1 143 := ⟨by decide +kernel, rfl⟩
theorem dX10_plug_143 : DI cX10_plug 143 (.aload_n 0) 1 144 := ⟨by decide +kernel, rfl⟩
theorem dX10_plug_144 : DI cX10_plug 144 (.iload_n 2) 1 145 := ⟨by decide +kernel, rfl⟩
theorem dX10_plug_145 : DI cX10_plug 145 (.invokevirtual 198) 3 148 := ⟨by decide +kernel, rfl⟩
theorem dX10_plug_148 : DB cX10_plug 148 (.ifCond .eq 6) (6) 3 151 154 := ⟨by decide +kernel, rfl, by decide⟩
theorem dX10_plug_151 : DI cX10_plug 151 (.bipush (-5)) 2 153 := ⟨by decide +kernel, rfl⟩
theorem dX10_plug_153 : DI cX10_plug 153 (.ireturn) 1 154 := ⟨by decide +kernel, rfl⟩
theorem dX10_plug_154 : DI cX10_plug 154 (.iload 4) 2 156 := ⟨by decide +kernel, rfl⟩
theorem dX10_plug_156 : DI cX10_plug 156 (.iconst (-1)) 1 157 := ⟨by decide +kernel, rfl⟩
theorem dX10_plug_157 : DB cX10_plug 157 (.if_icmp .eq 10) (10) 3 160 167 := ⟨by decide +kernel, rfl, by decide⟩
theorem dX10_plug_160 : DI cX10_plug 160 (.aload_n 0) 1 161 := ⟨by decide +kernel, rfl⟩
theorem dX10_plug_161 : DI cX10_plug 161 (.iload_n 1) 1 162 := ⟨by decide +kernel, rfl⟩
theorem dX10_plug_162 : DI cX10_plug 162 (.iload 4) 2 164 := ⟨by decide +kernel, rfl⟩
theorem dX10_plug_164 : DI cX10_plug 164 (.invokevirtual 191) 3 167 := ⟨by decide +kernel, rfl⟩
theorem dX10_plug_167 : DI cX10_plug 167 (.aload_n 0) 1 168 := ⟨by decide +kernel, rfl⟩
theorem dX10_plug_168 : DI cX10_plug 168 (.getfield 81) 3 171 := ⟨by decide +kernel, rfl⟩
theorem dX10_plug_171 : DI cX10_plug 171 (.aload_n 0) 1 172 := ⟨by decide +kernel, rfl⟩
theorem dX10_plug_172 : DI cX10_plug 172 (.getfield 151) 3 175 := ⟨by decide +kernel, rfl⟩
theorem dX10_plug_175 : DI cX10_plug 175 (.iload_n 1) 1 176 := ⟨by decide +kernel, rfl⟩
theorem dX10_plug_176 : DI cX10_plug 176 (.iastore) 1 177 := ⟨by decide +kernel, rfl⟩
theorem dX10_plug_177 : DI cX10_plug 177 (.aload_n 0) 1 178 := ⟨by decide +kernel, rfl⟩
theorem dX10_plug_178 : DI cX10_plug 178 (.getfield 84) 3 181 := ⟨by decide +kernel, rfl⟩
theorem dX10_plug_181 : DI cX10_plug 181 (.aload_n 0) 1 182 := ⟨by decide +kernel, rfl⟩
theorem dX10_plug_182 : DI cX10_plug 182 (.getfield 151) 3 185 := ⟨by decide +kernel, rfl⟩
theorem dX10_plug_185 : DI cX10_plug 185 (.iload_n 2) 1 186 := ⟨by decide +kernel, rfl⟩
theorem dX10_plug_186 : DI cX10_plug 186 (.iastore) 1 187 := ⟨by decide +kernel, rfl⟩
theorem dX10_plug_187 : DI cX10_plug 187 (.aload_n 0) 1 188 := ⟨by decide +kernel, rfl⟩
theorem dX10_plug_188 : DI cX10_plug 188 (.getfield 87) 3 191 := ⟨by decide +kernel, rfl⟩
theorem dX10_plug_191 : DI cX10_plug 191 (.aload_n 0) 1 192 := ⟨by decide +kernel, rfl⟩
theorem dX10_plug_192 : DI cX10_plug 192 (.getfield 151) 3 195 := ⟨by decide +kernel, rfl⟩
theorem dX10_plug_195 : DI cX10_plug 195 (.iload_n 3) 1 196 := ⟨by decide +kernel, rfl⟩
theorem dX10_plug_196 : DI cX10_plug 196 (.iastore) 1 197 := ⟨by decide +kernel, rfl⟩
theorem dX10_plug_197 : DI cX10_plug 197 (.aload_n 0) 1 198 := ⟨by decide +kernel, rfl⟩
theorem dX10_plug_198 : DI cX10_plug 198 (.getfield 90) 3 201 := ⟨by decide +kernel, rfl⟩
theorem dX10_plug_201 : DI cX10_plug 201 (.aload_n 0) 1 202 := ⟨by decide +kernel, rfl⟩
theorem dX10_plug_202 : DI cX10_plug 202 (.getfield 151) 3 205 := ⟨by decide +kernel, rfl⟩
theorem dX10_plug_205 : DI cX10_plug 205 (.iconst 1) 1 206 := ⟨by decide +kernel, rfl⟩
theorem dX10_plug_206 : DI cX10_plug 206 (.iastore) 1 207 := ⟨by decide +kernel, rfl⟩
theorem dX10_plug_207 : DI cX10_plug 207 (.aload_n 0) 1 208 := ⟨by decide +kernel, rfl⟩
theorem dX10_plug_208 : DI cX10_plug 208 (.getfield 123) 3 211 := ⟨by decide +kernel, rfl⟩
theorem dX10_plug_211 : DI cX10_plug 211 (.aload_n 0) 1 212 := ⟨by decide +kernel, rfl⟩
theorem dX10_plug_212 : DI cX10_plug 212 (.getfield 151) 3 215 := ⟨by decide +kernel, rfl⟩
theorem dX10_plug_215 : DI cX10_plug 215 (.sipush 1400) 3 218 := ⟨by decide +kernel, rfl⟩
theorem dX10_plug_218 : DI cX10_plug 218 (.iastore) 1 219 := ⟨by decide +kernel, rfl⟩
theorem dX10_plug_219 : DI cX10_plug 219 (.iconst 0) 1 220 := ⟨by decide +kernel, rfl⟩
theorem dX10_plug_220 : DI cX10_plug 220 (.istore 5) 2 222 := ⟨by decide +kernel, rfl⟩
theorem dX10_plug_222 : DI cX10_plug 222 (.iload 5) 2 224 := ⟨by decide +kernel, rfl⟩
theorem dX10_plug_224 : DI cX10_plug 224 (.iconst 4) 1 225 := ⟨by decide +kernel, rfl⟩
theorem dX10_plug_225 : DB cX10_plug 225 (.if_icmp .ge 39) (39) 3 228 264 := ⟨by decide +kernel, rfl, by decide⟩
theorem dX10_plug_228 : DI cX10_plug 228 (.aload_n 0) 1 229 := ⟨by decide +kernel, rfl⟩
theorem dX10_plug_229 : DI cX10_plug 229 (.getfield 63) 3 232 := ⟨by decide +kernel, rfl⟩
theorem dX10_plug_232 : DI cX10_plug 232 (.iconst 4) 1 233 := ⟨by decide +kernel, rfl⟩
theorem dX10_plug_233 : DI cX10_plug 233 (.aload_n 0) 1 234 := ⟨by decide +kernel, rfl⟩
theorem dX10_plug_234 : DI cX10_plug 234 (.getfield 151) 3 237 := ⟨by decide +kernel, rfl⟩
theorem dX10_plug_237 : DI cX10_plug 237 (.imul) 1 238 := ⟨by decide +kernel, rfl⟩
theorem dX10_plug_238 : DI cX10_plug 238 (.iload 5) 2 240 := ⟨by decide +kernel, rfl⟩
theorem dX10_plug_240 : DI cX10_plug 240 (.iadd) 1 241 := ⟨by decide +kernel, rfl⟩
theorem dX10_plug_241 : DI cX10_plug 241 (.aload_n 0) 1 242 := ⟨by decide +kernel, rfl⟩
theorem dX10_plug_242 : DI cX10_plug 242 (.getfield 60) 3 245 := ⟨by decide +kernel, rfl⟩
theorem dX10_plug_245 : DI cX10_plug 245 (.iconst 4) 1 246 := ⟨by decide +kernel, rfl⟩
theorem dX10_plug_246 : DI cX10_plug 246 (.aload_n 0) 1 247 := ⟨by decide +kernel, rfl⟩
theorem dX10_plug_247 : DI cX10_plug 247 (.getfield 16) 3 250 := ⟨by decide +kernel, rfl⟩
theorem dX10_plug_250 : DI cX10_plug 250 (.iload_n 1) 1 251 := ⟨by decide +kernel, rfl⟩
theorem dX10_plug_251 : DI cX10_plug 251 (.iaload) 1 252 := ⟨by decide +kernel, rfl⟩
theorem dX10_plug_252 : DI cX10_plug 252 (.imul) 1 253 := ⟨by decide +kernel, rfl⟩
theorem dX10_plug_253 : DI cX10_plug 253 (.iload 5) 2 255 := ⟨by decide +kernel, rfl⟩
theorem dX10_plug_255 : DI cX10_plug 255 (.iadd) 1 256 := ⟨by decide +kernel, rfl⟩
theorem dX10_plug_256 : DI cX10_plug 256 (.iaload) 1 257 := ⟨by decide +kernel, rfl⟩
theorem dX10_plug_257 : DI cX10_plug 257 (.iastore) 1 258 := ⟨by decide +kernel, rfl⟩
theorem dX10_plug_258 : DI cX10_plug 258 (.iinc 5 1) 3 261 := ⟨by decide +kernel, rfl⟩
theorem dX10_plug_261 : DB cX10_plug 261 (.goto (-39)) (-39) 3 264 222 := ⟨by decide +kernel, rfl, by decide⟩
theorem dX10_plug_264 : DI cX10_plug 264 (.aload_n 0) 1 265 := ⟨by decide +kernel, rfl⟩
theorem dX10_plug_265 : DI cX10_plug 265 (.getfield 33) 3 268 := ⟨by decide +kernel, rfl⟩
theorem dX10_plug_268 : DI cX10_plug 268 (.iload_n 1) 1 269 := ⟨by decide +kernel, rfl⟩
theorem dX10_plug_269 : DI cX10_plug 269 (.aload_n 0) 1 270 := ⟨by decide +kernel, rfl⟩
theorem dX10_plug_270 : DI cX10_plug 270 (.getfield 151) 3 273 := ⟨by decide +kernel, rfl⟩
theorem dX10_plug_273 : DI cX10_plug 273 (.iastore) 1 274 := ⟨by decide +kernel, rfl⟩
theorem dX10_plug_274 : DI cX10_plug 274 (.aload_n 0) 1 275 := ⟨by decide +kernel, rfl⟩
theorem dX10_plug_275 : DI cX10_plug 275 (.dup) 1 276 := ⟨by decide +kernel, rfl⟩
theorem dX10_plug_276 : DI cX10_plug 276 (.getfield 151) 3 279 := ⟨by decide +kernel, rfl⟩
theorem dX10_plug_279 : DI cX10_plug 279 (.iconst 1) 1 280 := ⟨by decide +kernel, rfl⟩
theorem dX10_plug_280 : DI cX10_plug 280 (.iadd) 1 281 := ⟨by decide +kernel, rfl⟩
theorem dX10_plug_281 : DI cX10_plug 281 (.putfield 151) 3 284 := ⟨by decide +kernel, rfl⟩
theorem dX10_plug_284 : DI cX10_plug 284 (.aload_n 0) 1 285 := ⟨by decide +kernel, rfl⟩
theorem dX10_plug_285 : DI cX10_plug 285 (.getfield 151) 3 288 := ⟨by decide +kernel, rfl⟩
theorem dX10_plug_288 : DI cX10_plug 288 (.iconst 1) 1 289 := ⟨by decide +kernel, rfl⟩
theorem dX10_plug_289 : DI cX10_plug 289 (.isub) 1 290 := ⟨by decide +kernel, rfl⟩
theorem dX10_plug_290 : DI cX10_plug 290 (.ireturn) 1 291 := ⟨by decide +kernel, rfl⟩
theorem dX10_billBy_0 : DI cX10_billBy 0 (.iconst 4) 1 1 := ⟨by decide +kernel, rfl⟩
theorem dX10_billBy_1 : DI cX10_billBy 1 (.iload_n 1) 1 2 := ⟨by decide +kernel, rfl⟩
theorem dX10_billBy_2 : DI cX10_billBy 2 (.imul) 1 3 := ⟨by decide +kernel, rfl⟩
theorem dX10_billBy_3 : DI cX10_billBy 3 (.istore 5) 2 5 := ⟨by decide +kernel, rfl⟩
theorem dX10_billBy_5 : DI cX10_billBy 5 (.iload 4) 2 7 := ⟨by decide +kernel, rfl⟩
theorem dX10_billBy_7 : DI cX10_billBy 7 (.bipush 10) 2 9 := ⟨by decide +kernel, rfl⟩
theorem dX10_billBy_9 : DB cX10_billBy 9 (.if_icmp .le 11) (11) 3 12 20 := ⟨by decide +kernel, rfl, by decide⟩
theorem dX10_billBy_12 : DI cX10_billBy 12 (.iload 4) 2 14 := ⟨by decide +kernel, rfl⟩
theorem dX10_billBy_14 : DI cX10_billBy 14 (.bipush 10) 2 16 := ⟨by decide +kernel, rfl⟩
theorem dX10_billBy_16 : DI cX10_billBy 16 (.isub) 1 17 := ⟨by decide +kernel, rfl⟩
theorem dX10_billBy_17 : DB cX10_billBy 17 (.goto 4) (4) 3 20 21 := ⟨by decide +kernel, rfl, by decide⟩
theorem dX10_billBy_20 : DI cX10_billBy 20 (.iconst 0) 1 21 := ⟨by decide +kernel, rfl⟩
theorem dX10_billBy_21 : DI cX10_billBy 21 (.istore 6) 2 23 := ⟨by decide +kernel, rfl⟩
theorem dX10_billBy_23 : DI cX10_billBy 23 (.iload_n 2) 1 24 := ⟨by decide +kernel, rfl⟩
theorem dX10_billBy_24 : DI cX10_billBy 24 (.i2l) 1 25 := ⟨by decide +kernel, rfl⟩
theorem dX10_billBy_25 : DI cX10_billBy 25 (.aload_n 0) 1 26 := ⟨by decide +kernel, rfl⟩
theorem dX10_billBy_26 : DI cX10_billBy 26 (.getfield 63) 3 29 := ⟨by decide +kernel, rfl⟩
theorem dX10_billBy_29 : DI cX10_billBy 29 (.iload 5) 2 31 := ⟨by decide +kernel, rfl⟩
theorem dX10_billBy_31 : DI cX10_billBy 31 (.iconst 1) 1 32 := ⟨by decide +kernel, rfl⟩
theorem dX10_billBy_32 : DI cX10_billBy 32 (.iadd) 1 33 := ⟨by decide +kernel, rfl⟩
theorem dX10_billBy_33 : DI cX10_billBy 33 (.iaload) 1 34 := ⟨by decide +kernel, rfl⟩
theorem dX10_billBy_34 : DI cX10_billBy 34 (.i2l) 1 35 := ⟨by decide +kernel, rfl⟩
theorem dX10_billBy_35 : DI cX10_billBy 35 (.lmul) 1 36 := ⟨by decide +kernel, rfl⟩
theorem dX10_billBy_36 : DI cX10_billBy 36 (.ldc2_w 201) 3 39 := ⟨by decide +kernel, rfl⟩
theorem dX10_billBy_39 : DI cX10_billBy 39 (.ldiv) 1 40 := ⟨by decide +kernel, rfl⟩
theorem dX10_billBy_40 : DI cX10_billBy 40 (.l2i) 1 41 := ⟨by decide +kernel, rfl⟩
theorem dX10_billBy_41 : DI cX10_billBy 41 (.istore 7) 2 43 := ⟨by decide +kernel, rfl⟩
theorem dX10_billBy_43 : DI cX10_billBy 43 (.iload_n 3) 1 44 := ⟨by decide +kernel, rfl⟩
theorem dX10_billBy_44 : DI cX10_billBy 44 (.i2l) 1 45 := ⟨by decide +kernel, rfl⟩
theorem dX10_billBy_45 : DI cX10_billBy 45 (.aload_n 0) 1 46 := ⟨by decide +kernel, rfl⟩
theorem dX10_billBy_46 : DI cX10_billBy 46 (.getfield 63) 3 49 := ⟨by decide +kernel, rfl⟩
theorem dX10_billBy_49 : DI cX10_billBy 49 (.iload 5) 2 51 := ⟨by decide +kernel, rfl⟩
theorem dX10_billBy_51 : DI cX10_billBy 51 (.iconst 2) 1 52 := ⟨by decide +kernel, rfl⟩
theorem dX10_billBy_52 : DI cX10_billBy 52 (.iadd) 1 53 := ⟨by decide +kernel, rfl⟩
theorem dX10_billBy_53 : DI cX10_billBy 53 (.iaload) 1 54 := ⟨by decide +kernel, rfl⟩
theorem dX10_billBy_54 : DI cX10_billBy 54 (.i2l) 1 55 := ⟨by decide +kernel, rfl⟩
theorem dX10_billBy_55 : DI cX10_billBy 55 (.lmul) 1 56 := ⟨by decide +kernel, rfl⟩
theorem dX10_billBy_56 : DI cX10_billBy 56 (.ldc2_w 201) 3 59 := ⟨by decide +kernel, rfl⟩
theorem dX10_billBy_59 : DI cX10_billBy 59 (.ldiv) 1 60 := ⟨by decide +kernel, rfl⟩
theorem dX10_billBy_60 : DI cX10_billBy 60 (.l2i) 1 61 := ⟨by decide +kernel, rfl⟩
theorem dX10_billBy_61 : DI cX10_billBy 61 (.istore 8) 2 63 := ⟨by decide +kernel, rfl⟩
theorem dX10_billBy_63 : DI cX10_billBy 63 (.aload_n 0) 1 64 := ⟨by decide +kernel, rfl⟩
theorem dX10_billBy_64 : DI cX10_billBy 64 (.getfield 63) 3 67 := ⟨by decide +kernel, rfl⟩
theorem dX10_billBy_67 : DI cX10_billBy 67 (.iload 5) 2 69 := ⟨by decide +kernel, rfl⟩
theorem dX10_billBy_69 : DI cX10_billBy 69 (.iaload) 1 70 := ⟨by decide +kernel, rfl⟩
theorem dX10_billBy_70 : DI cX10_billBy 70 (.iload 7) 2 72 := ⟨by decide +kernel, rfl⟩
theorem dX10_billBy_72 : DI cX10_billBy 72 (.iadd) 1 73 := ⟨by decide +kernel, rfl⟩
theorem dX10_billBy_73 : DI cX10_billBy 73 (.iload 8) 2 75 := ⟨by decide +kernel, rfl⟩
theorem dX10_billBy_75 : DI cX10_billBy 75 (.iadd) 1 76 := ⟨by decide +kernel, rfl⟩
theorem dX10_billBy_76 : DI cX10_billBy 76 (.iload 6) 2 78 := ⟨by decide +kernel, rfl⟩
theorem dX10_billBy_78 : DI cX10_billBy 78 (.aload_n 0) 1 79 := ⟨by decide +kernel, rfl⟩
theorem dX10_billBy_79 : DI cX10_billBy 79 (.getfield 63) 3 82 := ⟨by decide +kernel, rfl⟩
theorem dX10_billBy_82 : DI cX10_billBy 82 (.iload 5) 2 84 := ⟨by decide +kernel, rfl⟩
theorem dX10_billBy_84 : DI cX10_billBy 84 (.iconst 3) 1 85 := ⟨by decide +kernel, rfl⟩
theorem dX10_billBy_85 : DI cX10_billBy 85 (.iadd) 1 86 := ⟨by decide +kernel, rfl⟩
theorem dX10_billBy_86 : DI cX10_billBy 86 (.iaload) 1 87 := ⟨by decide +kernel, rfl⟩
theorem dX10_billBy_87 : DI cX10_billBy 87 (.imul) 1 88 := ⟨by decide +kernel, rfl⟩
theorem dX10_billBy_88 : DI cX10_billBy 88 (.iadd) 1 89 := ⟨by decide +kernel, rfl⟩
theorem dX10_billBy_89 : DI cX10_billBy 89 (.ireturn) 1 90 := ⟨by decide +kernel, rfl⟩
theorem dX10_payFor_0 : DI cX10_payFor 0 (.aload_n 0) 1 1 := ⟨by decide +kernel, rfl⟩
theorem dX10_payFor_1 : DI cX10_payFor 1 (.getfield 90) 3 4 := ⟨by decide +kernel, rfl⟩
theorem dX10_payFor_4 : DI cX10_payFor 4 (.iload_n 1) 1 5 := ⟨by decide +kernel, rfl⟩
theorem dX10_payFor_5 : DI cX10_payFor 5 (.iconst 3) 1 6 := ⟨by decide +kernel, rfl⟩
theorem dX10_payFor_6 : DI cX10_payFor 6 (.iastore) 1 7 := ⟨by decide +kernel, rfl⟩
theorem dX10_payFor_7 : DI cX10_payFor 7 (.aload_n 0) 1 8 := ⟨by decide +kernel, rfl⟩
theorem dX10_payFor_8 : DI cX10_payFor 8 (.getfield 87) 3 11 := ⟨by decide +kernel, rfl⟩
theorem dX10_payFor_11 : DI cX10_payFor 11 (.iload_n 1) 1 12 := ⟨by decide +kernel, rfl⟩
theorem dX10_payFor_12 : DI cX10_payFor 12 (.iaload) 1 13 := ⟨by decide +kernel, rfl⟩
theorem dX10_payFor_13 : DI cX10_payFor 13 (.istore_n 2) 1 14 := ⟨by decide +kernel, rfl⟩
theorem dX10_payFor_14 : DI cX10_payFor 14 (.aload_n 0) 1 15 := ⟨by decide +kernel, rfl⟩
theorem dX10_payFor_15 : DI cX10_payFor 15 (.getfield 126) 3 18 := ⟨by decide +kernel, rfl⟩
theorem dX10_payFor_18 : DI cX10_payFor 18 (.iload_n 1) 1 19 := ⟨by decide +kernel, rfl⟩
theorem dX10_payFor_19 : DI cX10_payFor 19 (.aload_n 0) 1 20 := ⟨by decide +kernel, rfl⟩
theorem dX10_payFor_20 : DI cX10_payFor 20 (.iload_n 1) 1 21 := ⟨by decide +kernel, rfl⟩
theorem dX10_payFor_21 : DI cX10_payFor 21 (.aload_n 0) 1 22 := ⟨by decide +kernel, rfl⟩
theorem dX10_payFor_22 : DI cX10_payFor 22 (.getfield 105) 3 25 := ⟨by decide +kernel, rfl⟩
theorem dX10_payFor_25 : DI cX10_payFor 25 (.iload_n 1) 1 26 := ⟨by decide +kernel, rfl⟩
theorem dX10_payFor_26 : DI cX10_payFor 26 (.iaload) 1 27 := ⟨by decide +kernel, rfl⟩
theorem dX10_payFor_27 : DI cX10_payFor 27 (.aload_n 0) 1 28 := ⟨by decide +kernel, rfl⟩
theorem dX10_payFor_28 : DI cX10_payFor 28 (.getfield 108) 3 31 := ⟨by decide +kernel, rfl⟩
theorem dX10_payFor_31 : DI cX10_payFor 31 (.iload_n 1) 1 32 := ⟨by decide +kernel, rfl⟩
theorem dX10_payFor_32 : DI cX10_payFor 32 (.iaload) 1 33 := ⟨by decide +kernel, rfl⟩
theorem dX10_payFor_33 : DI cX10_payFor 33 (.aload_n 0) 1 34 := ⟨by decide +kernel, rfl⟩
theorem dX10_payFor_34 : DI cX10_payFor 34 (.getfield 111) 3 37 := ⟨by decide +kernel, rfl⟩
theorem dX10_payFor_37 : DI cX10_payFor 37 (.iload_n 1) 1 38 := ⟨by decide +kernel, rfl⟩
theorem dX10_payFor_38 : DI cX10_payFor 38 (.iaload) 1 39 := ⟨by decide +kernel, rfl⟩
theorem dX10_payFor_39 : DI cX10_payFor 39 (.invokevirtual 203) 3 42 := ⟨by decide +kernel, rfl⟩
theorem dX10_payFor_42 : DI cX10_payFor 42 (.iastore) 1 43 := ⟨by decide +kernel, rfl⟩
theorem dX10_payFor_43 : DI cX10_payFor 43 (.aload_n 0) 1 44 := ⟨by decide +kernel, rfl⟩
theorem dX10_payFor_44 : DI cX10_payFor 44 (.getfield 57) 3 47 := ⟨by decide +kernel, rfl⟩
theorem dX10_payFor_47 : DI cX10_payFor 47 (.iload_n 2) 1 48 := ⟨by decide +kernel, rfl⟩
theorem dX10_payFor_48 : DI cX10_payFor 48 (.dup2) 1 49 := ⟨by decide +kernel, rfl⟩
theorem dX10_payFor_49 : DI cX10_payFor 49 (.iaload) 1 50 := ⟨by decide +kernel, rfl⟩
theorem dX10_payFor_50 : DI cX10_payFor 50 (.aload_n 0) 1 51 := ⟨by decide +kernel, rfl⟩
theorem dX10_payFor_51 : DI cX10_payFor 51 (.getfield 126) 3 54 := ⟨by decide +kernel, rfl⟩
theorem dX10_payFor_54 : DI cX10_payFor 54 (.iload_n 1) 1 55 := ⟨by decide +kernel, rfl⟩
theorem dX10_payFor_55 : DI cX10_payFor 55 (.iaload) 1 56 := ⟨by decide +kernel, rfl⟩
theorem dX10_payFor_56 : DI cX10_payFor 56 (.iadd) 1 57 := ⟨by decide +kernel, rfl⟩
theorem dX10_payFor_57 : DI cX10_payFor 57 (.iastore) 1 58 := ⟨by decide +kernel, rfl⟩
theorem dX10_payFor_58 : DI cX10_payFor 58 (.aload_n 0) 1 59 := ⟨by decide +kernel, rfl⟩
theorem dX10_payFor_59 : DI cX10_payFor 59 (.iload_n 1) 1 60 := ⟨by decide +kernel, rfl⟩
theorem dX10_payFor_60 : DI cX10_payFor 60 (.ldc2_w 207) 3 63 := ⟨by decide +kernel, rfl⟩
theorem dX10_payFor_63 : DI cX10_payFor 63 (.aload_n 0) 1 64 := ⟨by decide +kernel, rfl⟩
theorem dX10_payFor_64 : DI cX10_payFor 64 (.getfield 126) 3 67 := ⟨by decide +kernel, rfl⟩
theorem dX10_payFor_67 : DI cX10_payFor 67 (.iload_n 1) 1 68 := ⟨by decide +kernel, rfl⟩
theorem dX10_payFor_68 : DI cX10_payFor 68 (.iaload) 1 69 := ⟨by decide +kernel, rfl⟩
theorem dX10_payFor_69 : DI cX10_payFor 69 (.i2l) 1 70 := ⟨by decide +kernel, rfl⟩
theorem dX10_payFor_70 : DI cX10_payFor 70 (.lmul) 1 71 := ⟨by decide +kernel, rfl⟩
theorem dX10_payFor_71 : DI cX10_payFor 71 (.ldc2_w 209) 3 74 := ⟨by decide +kernel, rfl⟩
theorem dX10_payFor_74 : DI cX10_payFor 74 (.ldiv) 1 75 := ⟨by decide +kernel, rfl⟩
theorem dX10_payFor_75 : DI cX10_payFor 75 (.l2i) 1 76 := ⟨by decide +kernel, rfl⟩
theorem dX10_payFor_76 : DI cX10_payFor 76 (.invokevirtual 211) 3 79 := ⟨by decide +kernel, rfl⟩
theorem dX10_payFor_79 : DI cX10_payFor 79 (.return_) 1 80 := ⟨by decide +kernel, rfl⟩
theorem dX10_owe_0 : DI cX10_owe 0 (.aload_n 0) 1 1 := ⟨by decide +kernel, rfl⟩
theorem dX10_owe_1 : DI cX10_owe 1 (.getfield 45) 3 4 := ⟨by decide +kernel, rfl⟩
theorem dX10_owe_4 : DI cX10_owe 4 (.aload_n 0) 1 5 := ⟨by decide +kernel, rfl⟩
theorem dX10_owe_5 : DI cX10_owe 5 (.getfield 87) 3 8 := ⟨by decide +kernel, rfl⟩
theorem dX10_owe_8 : DI cX10_owe 8 (.iload_n 1) 1 9 := ⟨by decide +kernel, rfl⟩
theorem dX10_owe_9 : DI cX10_owe 9 (.iaload) 1 10 := ⟨by decide +kernel, rfl⟩
theorem dX10_owe_10 : DI cX10_owe 10 (.iaload) 1 11 := ⟨by decide +kernel, rfl⟩
theorem dX10_owe_11 : DI cX10_owe 11 (.istore_n 3) 1 12 := ⟨by decide +kernel, rfl⟩
theorem dX10_owe_12 : DI cX10_owe 12 (.aload_n 0) 1 13 := ⟨by decide +kernel, rfl⟩
theorem dX10_owe_13 : DI cX10_owe 13 (.getfield 16) 3 16 := ⟨by decide +kernel, rfl⟩
theorem dX10_owe_16 : DI cX10_owe 16 (.aload_n 0) 1 17 := ⟨by decide +kernel, rfl⟩
theorem dX10_owe_17 : DI cX10_owe 17 (.getfield 81) 3 20 := ⟨by decide +kernel, rfl⟩
theorem dX10_owe_20 : DI cX10_owe 20 (.iload_n 1) 1 21 := ⟨by decide +kernel, rfl⟩
theorem dX10_owe_21 : DI cX10_owe 21 (.iaload) 1 22 := ⟨by decide +kernel, rfl⟩
theorem dX10_owe_22 : DI cX10_owe 22 (.iaload) 1 23 := ⟨by decide +kernel, rfl⟩
theorem dX10_owe_23 : DI cX10_owe 23 (.istore 4) 2 25 := ⟨by decide +kernel, rfl⟩
theorem dX10_owe_25 : DI cX10_owe 25 (.aload_n 0) 1 26 := ⟨by decide +kernel, rfl⟩
theorem dX10_owe_26 : DI cX10_owe 26 (.getfield 66) 3 29 := ⟨by decide +kernel, rfl⟩
theorem dX10_owe_29 : DI cX10_owe 29 (.iconst 3) 1 30 := ⟨by decide +kernel, rfl⟩
theorem dX10_owe_30 : DI cX10_owe 30 (.iload_n 3) 1 31 := ⟨by decide +kernel, rfl⟩
theorem dX10_owe_31 : DI cX10_owe 31 (.imul) 1 32 := ⟨by decide +kernel, rfl⟩
theorem dX10_owe_32 : DI cX10_owe 32 (.iload 4) 2 34 := ⟨by decide +kernel, rfl⟩
theorem dX10_owe_34 : DI cX10_owe 34 (.iadd) 1 35 := ⟨by decide +kernel, rfl⟩
theorem dX10_owe_35 : DI cX10_owe 35 (.dup2) 1 36 := ⟨by decide +kernel, rfl⟩
theorem dX10_owe_36 : DI cX10_owe 36 (.iaload) 1 37 := ⟨by decide +kernel, rfl⟩
theorem dX10_owe_37 : DI cX10_owe 37 (.iload_n 3) 1 38 := ⟨by decide +kernel, rfl⟩
theorem dX10_owe_38 : DI cX10_owe 38 (.iload 4) 2 40 := ⟨by decide +kernel, rfl⟩
theorem dX10_owe_40 : DB cX10_owe 40 (.if_icmp .ne 7) (7) 3 43 47 := ⟨by decide +kernel, rfl, by decide⟩
theorem dX10_owe_43 : DI cX10_owe 43 (.iconst 0) 1 44 := ⟨by decide +kernel, rfl⟩
theorem dX10_owe_44 : DB cX10_owe 44 (.goto 4) (4) 3 47 48 := ⟨by decide +kernel, rfl, by decide⟩
theorem dX10_owe_47 : DI cX10_owe 47 (.iload_n 2) 1 48 := ⟨by decide +kernel, rfl⟩
theorem dX10_owe_48 : DI cX10_owe 48 (.iadd) 1 49 := ⟨by decide +kernel, rfl⟩
theorem dX10_owe_49 : DI cX10_owe 49 (.iastore) 1 50 := ⟨by decide +kernel, rfl⟩
theorem dX10_owe_50 : DI cX10_owe 50 (.return_) 1 51 := ⟨by decide +kernel, rfl⟩
theorem dX10_unplug_0 : DI cX10_unplug 0 (.aload_n 0) 1 1 := ⟨by decide +kernel, rfl⟩
theorem dX10_unplug_1 : DI cX10_unplug 1 (.iconst 0) 1 2 := ⟨by decide +kernel, rfl⟩
theorem dX10_unplug_2 : DI cX10_unplug 2 (.putfield 138) 3 5 := ⟨by decide +kernel, rfl⟩
theorem dX10_unplug_5 : DI cX10_unplug 5 (.aload_n 0) 1 6 := ⟨by decide +kernel, rfl⟩
theorem dX10_unplug_6 : DI cX10_unplug 6 (.iload_n 1) 1 7 := ⟨by decide +kernel, rfl⟩
theorem dX10_unplug_7 : DI cX10_unplug 7 (.invokevirtual 214) 3 10 := ⟨by decide +kernel, rfl⟩
theorem dX10_unplug_10 : DB cX10_unplug 10 (.ifCond .ne 9) (9) 3 13 19 := ⟨by decide +kernel, rfl, by decide⟩
theorem dX10_unplug_13 : DI cX10_unplug 13 (.aload_n 0) 1 14 := ⟨by decide +kernel, rfl⟩
theorem dX10_unplug_14 : DI cX10_unplug 14 (.iconst 1) 1 15 := ⟨by decide +kernel, rfl⟩
theorem dX10_unplug_15 : DI cX10_unplug 15 (.invokevirtual 158) 3 18 := ⟨by decide +kernel, rfl⟩
theorem dX10_unplug_18 : DI cX10_unplug 18 (.ireturn) 1 19 := ⟨by decide +kernel, rfl⟩
theorem dX10_unplug_19 : DI cX10_unplug 19 (.aload_n 0) 1 20 := ⟨by decide +kernel, rfl⟩
theorem dX10_unplug_20 : DI cX10_unplug 20 (.getfield 90) 3 23 := ⟨by decide +kernel, rfl⟩
theorem dX10_unplug_23 : DI cX10_unplug 23 (.iload_n 1) 1 24 := ⟨by decide +kernel, rfl⟩
theorem dX10_unplug_24 : DI cX10_unplug 24 (.iaload) 1 25 := ⟨by decide +kernel, rfl⟩
theorem dX10_unplug_25 : DI cX10_unplug 25 (.iconst 1) 1 26 := ⟨by decide +kernel, rfl⟩
theorem dX10_unplug_26 : DB cX10_unplug 26 (.if_icmp .eq 9) (9) 3 29 35 := ⟨by decide +kernel, rfl, by decide⟩
theorem dX10_unplug_29 : DI cX10_unplug 29 (.aload_n 0) 1 30 := ⟨by decide +kernel, rfl⟩
theorem dX10_unplug_30 : DI cX10_unplug 30 (.iconst 2) 1 31 := ⟨by decide +kernel, rfl⟩
theorem dX10_unplug_31 : DI cX10_unplug 31 (.invokevirtual 158) 3 34 := ⟨by decide +kernel, rfl⟩
theorem dX10_unplug_34 : DI cX10_unplug 34 (.ireturn) 1 35 := ⟨by decide +kernel, rfl⟩
theorem dX10_unplug_35 : DI cX10_unplug 35 (.aload_n 0) 1 36 := ⟨by decide +kernel, rfl⟩
theorem dX10_unplug_36 : DI cX10_unplug 36 (.getfield 90) 3 39 := ⟨by decide +kernel, rfl⟩
theorem dX10_unplug_39 : DI cX10_unplug 39 (.iload_n 1) 1 40 := ⟨by decide +kernel, rfl⟩
theorem dX10_unplug_40 : DI cX10_unplug 40 (.iconst 2) 1 41 := ⟨by decide +kernel, rfl⟩
theorem dX10_unplug_41 : DI cX10_unplug 41 (.iastore) 1 42 := ⟨by decide +kernel, rfl⟩
theorem dX10_unplug_42 : DI cX10_unplug 42 (.aload_n 0) 1 43 := ⟨by decide +kernel, rfl⟩
theorem dX10_unplug_43 : DI cX10_unplug 43 (.getfield 33) 3 46 := ⟨by decide +kernel, rfl⟩
theorem dX10_unplug_46 : DI cX10_unplug 46 (.aload_n 0) 1 47 := ⟨by decide +kernel, rfl⟩
theorem dX10_unplug_47 : DI cX10_unplug 47 (.getfield 81) 3 50 := ⟨by decide +kernel, rfl⟩
theorem dX10_unplug_50 : DI cX10_unplug 50 (.iload_n 1) 1 51 := ⟨by decide +kernel, rfl⟩
theorem dX10_unplug_51 : DI cX10_unplug 51 (.iaload) 1 52 := ⟨by decide +kernel, rfl⟩
theorem dX10_unplug_52 : DI cX10_unplug 52 (.iconst (-1)) 1 53 := ⟨by decide +kernel, rfl⟩
theorem dX10_unplug_53 : DI cX10_unplug 53 (.iastore) 1 54 := ⟨by decide +kernel, rfl⟩
theorem dX10_unplug_54 : DI cX10_unplug 54 (.aload_n 0) 1 55 := ⟨by decide +kernel, rfl⟩
theorem dX10_unplug_55 : DI cX10_unplug 55 (.getfield 99) 3 58 := ⟨by decide +kernel, rfl⟩
theorem dX10_unplug_58 : DI cX10_unplug 58 (.iload_n 1) 1 59 := ⟨by decide +kernel, rfl⟩
theorem dX10_unplug_59 : DI cX10_unplug 59 (.iaload) 1 60 := ⟨by decide +kernel, rfl⟩
theorem dX10_unplug_60 : DI cX10_unplug 60 (.aload_n 0) 1 61 := ⟨by decide +kernel, rfl⟩
theorem dX10_unplug_61 : DI cX10_unplug 61 (.getfield 102) 3 64 := ⟨by decide +kernel, rfl⟩
theorem dX10_unplug_64 : DI cX10_unplug 64 (.iload_n 1) 1 65 := ⟨by decide +kernel, rfl⟩
theorem dX10_unplug_65 : DI cX10_unplug 65 (.iaload) 1 66 := ⟨by decide +kernel, rfl⟩
theorem dX10_unplug_66 : DI cX10_unplug 66 (.isub) 1 67 := ⟨by decide +kernel, rfl⟩
theorem dX10_unplug_67 : DI cX10_unplug 67 (.istore_n 2) 1 68 := ⟨by decide +kernel, rfl⟩
theorem dX10_unplug_68 : DI cX10_unplug 68 (.iload_n 2) 1 69 := ⟨by decide +kernel, rfl⟩
theorem dX10_unplug_69 : DB cX10_unplug 69 (.ifCond .ne 8) (8) 3 72 77 := ⟨by decide +kernel, rfl, by decide⟩
theorem dX10_unplug_72 : DI cX10_unplug 72 (.aload_n 0) 1 73 := ⟨by decide +kernel, rfl⟩
theorem dX10_unplug_73 : DI cX10_unplug 73 (.iload_n 1) 1 74 := ⟨by decide +kernel, rfl⟩
theorem dX10_unplug_74 : DI cX10_unplug 74 (.invokevirtual 181) 3 77 := ⟨by decide +kernel, rfl⟩
theorem dX10_unplug_77 : DI cX10_unplug 77 (.iload_n 2) 1 78 := ⟨by decide +kernel, rfl⟩
theorem dX10_unplug_78 : DI cX10_unplug 78 (.ireturn) 1 79 := ⟨by decide +kernel, rfl⟩
theorem dX10_wants_0 : DI cX10_wants 0 (.ldc2_w 217) 3 3 := ⟨by decide +kernel, rfl⟩
theorem dX10_wants_3 : DI cX10_wants 3 (.aload_n 0) 1 4 := ⟨by decide +kernel, rfl⟩
theorem dX10_wants_4 : DI cX10_wants 4 (.getfield 39) 3 7 := ⟨by decide +kernel, rfl⟩
theorem dX10_wants_7 : DI cX10_wants 7 (.iload_n 1) 1 8 := ⟨by decide +kernel, rfl⟩
theorem dX10_wants_8 : DI cX10_wants 8 (.iaload) 1 9 := ⟨by decide +kernel, rfl⟩
theorem dX10_wants_9 : DI cX10_wants 9 (.i2l) 1 10 := ⟨by decide +kernel, rfl⟩
theorem dX10_wants_10 : DI cX10_wants 10 (.lmul) 1 11 := ⟨by decide +kernel, rfl⟩
theorem dX10_wants_11 : DI cX10_wants 11 (.ldc2_w 219) 3 14 := ⟨by decide +kernel, rfl⟩
theorem dX10_wants_14 : DI cX10_wants 14 (.aload_n 0) 1 15 := ⟨by decide +kernel, rfl⟩
theorem dX10_wants_15 : DI cX10_wants 15 (.getfield 36) 3 18 := ⟨by decide +kernel, rfl⟩
theorem dX10_wants_18 : DI cX10_wants 18 (.iload_n 1) 1 19 := ⟨by decide +kernel, rfl⟩
theorem dX10_wants_19 : DI cX10_wants 19 (.iaload) 1 20 := ⟨by decide +kernel, rfl⟩
theorem dX10_wants_20 : DI cX10_wants 20 (.i2l) 1 21 := ⟨by decide +kernel, rfl⟩
theorem dX10_wants_21 : DI cX10_wants 21 (.lmul) 1 22 := ⟨by decide +kernel, rfl⟩
theorem dX10_wants_22 : DI cX10_wants 22 (.lcmp) 1 23 := ⟨by decide +kernel, rfl⟩
theorem dX10_wants_23 : DB cX10_wants 23 (.ifCond .lt 14) (14) 3 26 37 := ⟨by decide +kernel, rfl, by decide⟩
theorem dX10_wants_26 : DI cX10_wants 26 (.aload_n 0) 1 27 := ⟨by decide +kernel, rfl⟩
theorem dX10_wants_27 : DI cX10_wants 27 (.getfield 42) 3 30 := ⟨by decide +kernel, rfl⟩
theorem dX10_wants_30 : DI cX10_wants 30 (.iload_n 1) 1 31 := ⟨by decide +kernel, rfl⟩
theorem dX10_wants_31 : DI cX10_wants 31 (.iaload) 1 32 := ⟨by decide +kernel, rfl⟩
theorem dX10_wants_32 : DI cX10_wants 32 (.iconst 2) 1 33 := ⟨by decide +kernel, rfl⟩
theorem dX10_wants_33 : DI cX10_wants 33 (.idiv) 1 34 := ⟨by decide +kernel, rfl⟩
theorem dX10_wants_34 : DB cX10_wants 34 (.goto 9) (9) 3 37 43 := ⟨by decide +kernel, rfl, by decide⟩
theorem dX10_wants_37 : DI cX10_wants 37 (.aload_n 0) 1 38 := ⟨by decide +kernel, rfl⟩
theorem dX10_wants_38 : DI cX10_wants 38 (.getfield 42) 3 41 := ⟨by decide +kernel, rfl⟩
theorem dX10_wants_41 : DI cX10_wants 41 (.iload_n 1) 1 42 := ⟨by decide +kernel, rfl⟩
theorem dX10_wants_42 : DI cX10_wants 42 (.iaload) 1 43 := ⟨by decide +kernel, rfl⟩
theorem dX10_wants_43 : DI cX10_wants 43 (.istore_n 2) 1 44 := ⟨by decide +kernel, rfl⟩
theorem dX10_wants_44 : DI cX10_wants 44 (.aload_n 0) 1 45 := ⟨by decide +kernel, rfl⟩
theorem dX10_wants_45 : DI cX10_wants 45 (.getfield 13) 3 48 := ⟨by decide +kernel, rfl⟩
theorem dX10_wants_48 : DB cX10_wants 48 (.ifCond .ge 18) (18) 3 51 66 := ⟨by decide +kernel, rfl, by decide⟩
theorem dX10_wants_51 : DI cX10_wants 51 (.iload_n 2) 1 52 := ⟨by decide +kernel, rfl⟩
theorem dX10_wants_52 : DI cX10_wants 52 (.bipush 100) 2 54 := ⟨by decide +kernel, rfl⟩
theorem dX10_wants_54 : DI cX10_wants 54 (.aload_n 0) 1 55 := ⟨by decide +kernel, rfl⟩
theorem dX10_wants_55 : DI cX10_wants 55 (.getfield 13) 3 58 := ⟨by decide +kernel, rfl⟩
theorem dX10_wants_58 : DI cX10_wants 58 (.iadd) 1 59 := ⟨by decide +kernel, rfl⟩
theorem dX10_wants_59 : DI cX10_wants 59 (.imul) 1 60 := ⟨by decide +kernel, rfl⟩
theorem dX10_wants_60 : DI cX10_wants 60 (.bipush 100) 2 62 := ⟨by decide +kernel, rfl⟩
theorem dX10_wants_62 : DI cX10_wants 62 (.idiv) 1 63 := ⟨by decide +kernel, rfl⟩
theorem dX10_wants_63 : DB cX10_wants 63 (.goto 4) (4) 3 66 67 := ⟨by decide +kernel, rfl, by decide⟩
theorem dX10_wants_66 : DI cX10_wants 66 (.iload_n 2) 1 67 := ⟨by decide +kernel, rfl⟩
theorem dX10_wants_67 : DI cX10_wants 67 (.istore_n 2) 1 68 := ⟨by decide +kernel, rfl⟩
theorem dX10_wants_68 : DI cX10_wants 68 (.aload_n 0) 1 69 := ⟨by decide +kernel, rfl⟩
theorem dX10_wants_69 : DI cX10_wants 69 (.getfield 36) 3 72 := ⟨by decide +kernel, rfl⟩
theorem dX10_wants_72 : DI cX10_wants 72 (.iload_n 1) 1 73 := ⟨by decide +kernel, rfl⟩
theorem dX10_wants_73 : DI cX10_wants 73 (.iaload) 1 74 := ⟨by decide +kernel, rfl⟩
theorem dX10_wants_74 : DI cX10_wants 74 (.aload_n 0) 1 75 := ⟨by decide +kernel, rfl⟩
theorem dX10_wants_75 : DI cX10_wants 75 (.getfield 39) 3 78 := ⟨by decide +kernel, rfl⟩
theorem dX10_wants_78 : DI cX10_wants 78 (.iload_n 1) 1 79 := ⟨by decide +kernel, rfl⟩
theorem dX10_wants_79 : DI cX10_wants 79 (.iaload) 1 80 := ⟨by decide +kernel, rfl⟩
theorem dX10_wants_80 : DI cX10_wants 80 (.isub) 1 81 := ⟨by decide +kernel, rfl⟩
theorem dX10_wants_81 : DI cX10_wants 81 (.istore_n 3) 1 82 := ⟨by decide +kernel, rfl⟩
theorem dX10_wants_82 : DI cX10_wants 82 (.iload_n 2) 1 83 := ⟨by decide +kernel, rfl⟩
theorem dX10_wants_83 : DI cX10_wants 83 (.iload_n 3) 1 84 := ⟨by decide +kernel, rfl⟩
theorem dX10_wants_84 : DB cX10_wants 84 (.if_icmp .ge 7) (7) 3 87 91 := ⟨by decide +kernel, rfl, by decide⟩
theorem dX10_wants_87 : DI cX10_wants 87 (.iload_n 2) 1 88 := ⟨by decide +kernel, rfl⟩
theorem dX10_wants_88 : DB cX10_wants 88 (.goto 4) (4) 3 91 92 := ⟨by decide +kernel, rfl, by decide⟩
theorem dX10_wants_91 : DI cX10_wants 91 (.iload_n 3) 1 92 := ⟨by decide +kernel, rfl⟩
theorem dX10_wants_92 : DI cX10_wants 92 (.ireturn) 1 93 := ⟨by decide +kernel, rfl⟩
theorem dX10_cap_0 : DI cX10_cap 0 (.aload_n 0) 1 1 := ⟨by decide +kernel, rfl⟩
theorem dX10_cap_1 : DI cX10_cap 1 (.getfield 81) 3 4 := ⟨by decide +kernel, rfl⟩
theorem dX10_cap_4 : DI cX10_cap 4 (.iload_n 1) 1 5 := ⟨by decide +kernel, rfl⟩
theorem dX10_cap_5 : DI cX10_cap 5 (.iaload) 1 6 := ⟨by decide +kernel, rfl⟩
theorem dX10_cap_6 : DI cX10_cap 6 (.istore_n 2) 1 7 := ⟨by decide +kernel, rfl⟩
theorem dX10_cap_7 : DI cX10_cap 7 (.aload_n 0) 1 8 := ⟨by decide +kernel, rfl⟩
theorem dX10_cap_8 : DI cX10_cap 8 (.getfield 188) 3 11 := ⟨by decide +kernel, rfl⟩
theorem dX10_cap_11 : DI cX10_cap 11 (.aload_n 0) 1 12 := ⟨by decide +kernel, rfl⟩
theorem dX10_cap_12 : DI cX10_cap 12 (.getfield 30) 3 15 := ⟨by decide +kernel, rfl⟩
theorem dX10_cap_15 : DI cX10_cap 15 (.iload_n 2) 1 16 := ⟨by decide +kernel, rfl⟩
theorem dX10_cap_16 : DI cX10_cap 16 (.iaload) 1 17 := ⟨by decide +kernel, rfl⟩
theorem dX10_cap_17 : DI cX10_cap 17 (.isub) 1 18 := ⟨by decide +kernel, rfl⟩
theorem dX10_cap_18 : DI cX10_cap 18 (.iconst 5) 1 19 := ⟨by decide +kernel, rfl⟩
theorem dX10_cap_19 : DB cX10_cap 19 (.if_icmp .ge 12) (12) 3 22 31 := ⟨by decide +kernel, rfl, by decide⟩
theorem dX10_cap_22 : DI cX10_cap 22 (.aload_n 0) 1 23 := ⟨by decide +kernel, rfl⟩
theorem dX10_cap_23 : DI cX10_cap 23 (.getfield 123) 3 26 := ⟨by decide +kernel, rfl⟩
theorem dX10_cap_26 : DI cX10_cap 26 (.iload_n 1) 1 27 := ⟨by decide +kernel, rfl⟩
theorem dX10_cap_27 : DI cX10_cap 27 (.iaload) 1 28 := ⟨by decide +kernel, rfl⟩
theorem dX10_cap_28 : DB cX10_cap 28 (.goto 6) (6) 3 31 34 := ⟨by decide +kernel, rfl, by decide⟩
theorem dX10_cap_31 : DI cX10_cap 31 (.sipush 1400) 3 34 := ⟨by decide +kernel, rfl⟩
theorem dX10_cap_34 : DI cX10_cap 34 (.ireturn) 1 35 := ⟨by decide +kernel, rfl⟩
theorem dX10_isServed_0 : DI cX10_isServed 0 (.aload_n 0) 1 1 := ⟨by decide +kernel, rfl⟩
theorem dX10_isServed_1 : DI cX10_isServed 1 (.getfield 90) 3 4 := ⟨by decide +kernel, rfl⟩
theorem dX10_isServed_4 : DI cX10_isServed 4 (.iload_n 1) 1 5 := ⟨by decide +kernel, rfl⟩
theorem dX10_isServed_5 : DI cX10_isServed 5 (.iaload) 1 6 := ⟨by decide +kernel, rfl⟩
theorem dX10_isServed_6 : DI cX10_isServed 6 (.iconst 1) 1 7 := ⟨by decide +kernel, rfl⟩
theorem dX10_isServed_7 : DB cX10_isServed 7 (.if_icmp .ne 21) (21) 3 10 28 := ⟨by decide +kernel, rfl, by decide⟩
theorem dX10_isServed_10 : DI cX10_isServed 10 (.aload_n 0) 1 11 := ⟨by decide +kernel, rfl⟩
theorem dX10_isServed_11 : DI cX10_isServed 11 (.getfield 27) 3 14 := ⟨by decide +kernel, rfl⟩
theorem dX10_isServed_14 : DI cX10_isServed 14 (.aload_n 0) 1 15 := ⟨by decide +kernel, rfl⟩
theorem dX10_isServed_15 : DI cX10_isServed 15 (.getfield 81) 3 18 := ⟨by decide +kernel, rfl⟩
theorem dX10_isServed_18 : DI cX10_isServed 18 (.iload_n 1) 1 19 := ⟨by decide +kernel, rfl⟩
theorem dX10_isServed_19 : DI cX10_isServed 19 (.iaload) 1 20 := ⟨by decide +kernel, rfl⟩
theorem dX10_isServed_20 : DI cX10_isServed 20 (.baload) 1 21 := ⟨by decide +kernel, rfl⟩
theorem dX10_isServed_21 : DB cX10_isServed 21 (.ifCond .ne 7) (7) 3 24 28 := ⟨by decide +kernel, rfl, by decide⟩
theorem dX10_isServed_24 : DI cX10_isServed 24 (.iconst 1) 1 25 := ⟨by decide +kernel, rfl⟩
theorem dX10_isServed_25 : DB cX10_isServed 25 (.goto 4) (4) 3 28 29 := ⟨by decide +kernel, rfl, by decide⟩
theorem dX10_isServed_28 : DI cX10_isServed 28 (.iconst 0) 1 29 := ⟨by decide +kernel, rfl⟩
theorem dX10_isServed_29 : DI cX10_isServed 29 (.ireturn) 1 30 := ⟨by decide +kernel, rfl⟩
theorem dX10_behind_0 : DI cX10_behind 0 (.iconst (-1)) 1 1 := ⟨by decide +kernel, rfl⟩
theorem dX10_behind_1 : DI cX10_behind 1 (.istore_n 2) 1 2 := ⟨by decide +kernel, rfl⟩
theorem dX10_behind_2 : DI cX10_behind 2 (.iconst 0) 1 3 := ⟨by decide +kernel, rfl⟩
theorem dX10_behind_3 : DI cX10_behind 3 (.istore_n 3) 1 4 := ⟨by decide +kernel, rfl⟩
theorem dX10_behind_4 : DI cX10_behind 4 (.iload_n 3) 1 5 := ⟨by decide +kernel, rfl⟩
theorem dX10_behind_5 : DI cX10_behind 5 (.aload_n 0) 1 6 := ⟨by decide +kernel, rfl⟩
theorem dX10_behind_6 : DI cX10_behind 6 (.getfield 151) 3 9 := ⟨by decide +kernel, rfl⟩
theorem dX10_behind_9 : DB cX10_behind 9 (.if_icmp .ge 63) (63) 3 12 72 := ⟨by decide +kernel, rfl, by decide⟩
theorem dX10_behind_12 : DI cX10_behind 12 (.aload_n 0) 1 13 := ⟨by decide +kernel, rfl⟩
theorem dX10_behind_13 : DI cX10_behind 13 (.iload_n 3) 1 14 := ⟨by decide +kernel, rfl⟩
theorem dX10_behind_14 : DI cX10_behind 14 (.invokevirtual 221) 3 17 := ⟨by decide +kernel, rfl⟩
theorem dX10_behind_17 : DB cX10_behind 17 (.ifCond .eq 35) (35) 3 20 52 := ⟨by decide +kernel, rfl, by decide⟩
theorem dX10_behind_20 : DI cX10_behind 20 (.iload_n 1) 1 21 := ⟨by decide +kernel, rfl⟩
theorem dX10_behind_21 : DI cX10_behind 21 (.iconst (-1)) 1 22 := ⟨by decide +kernel, rfl⟩
theorem dX10_behind_22 : DB cX10_behind 22 (.if_icmp .eq 12) (12) 3 25 34 := ⟨by decide +kernel, rfl, by decide⟩
theorem dX10_behind_25 : DI cX10_behind 25 (.aload_n 0) 1 26 := ⟨by decide +kernel, rfl⟩
theorem dX10_behind_26 : DI cX10_behind 26 (.iload_n 1) 1 27 := ⟨by decide +kernel, rfl⟩
theorem dX10_behind_27 : DI cX10_behind 27 (.iload_n 3) 1 28 := ⟨by decide +kernel, rfl⟩
theorem dX10_behind_28 : DI cX10_behind 28 (.invokevirtual 224) 3 31 := ⟨by decide +kernel, rfl⟩
theorem dX10_behind_31 : DB cX10_behind 31 (.ifCond .eq 21) (21) 3 34 52 := ⟨by decide +kernel, rfl, by decide⟩
theorem dX10_behind_34 : DI cX10_behind 34 (.iload_n 2) 1 35 := ⟨by decide +kernel, rfl⟩
theorem dX10_behind_35 : DI cX10_behind 35 (.iconst (-1)) 1 36 := ⟨by decide +kernel, rfl⟩
theorem dX10_behind_36 : DB cX10_behind 36 (.if_icmp .eq 12) (12) 3 39 48 := ⟨by decide +kernel, rfl, by decide⟩
theorem dX10_behind_39 : DI cX10_behind 39 (.aload_n 0) 1 40 := ⟨by decide +kernel, rfl⟩
theorem dX10_behind_40 : DI cX10_behind 40 (.iload_n 3) 1 41 := ⟨by decide +kernel, rfl⟩
theorem dX10_behind_41 : DI cX10_behind 41 (.iload_n 2) 1 42 := ⟨by decide +kernel, rfl⟩
theorem dX10_behind_42 : DI cX10_behind 42 (.invokevirtual 224) 3 45 := ⟨by decide +kernel, rfl⟩
theorem dX10_behind_45 : DB cX10_behind 45 (.ifCond .eq 7) (7) 3 48 52 := ⟨by decide +kernel, rfl, by decide⟩
theorem dX10_behind_48 : DI cX10_behind 48 (.iconst 1) 1 49 := ⟨by decide +kernel, rfl⟩
theorem dX10_behind_49 : DB cX10_behind 49 (.goto 4) (4) 3 52 53 := ⟨by decide +kernel, rfl, by decide⟩
theorem dX10_behind_52 : DI cX10_behind 52 (.iconst 0) 1 53 := ⟨by decide +kernel, rfl⟩
theorem dX10_behind_53 : DI cX10_behind 53 (.istore 4) 2 55 := ⟨by decide +kernel, rfl⟩
theorem dX10_behind_55 : DI cX10_behind 55 (.iload 4) 2 57 := ⟨by decide +kernel, rfl⟩
theorem dX10_behind_57 : DB cX10_behind 57 (.ifCond .eq 7) (7) 3 60 64 := ⟨by decide +kernel, rfl, by decide⟩
theorem dX10_behind_60 : DI cX10_behind 60 (.iload_n 3) 1 61 := ⟨by decide +kernel, rfl⟩
theorem dX10_behind_61 : DB cX10_behind 61 (.goto 4) (4) 3 64 65 := ⟨by decide +kernel, rfl, by decide⟩
theorem dX10_behind_64 : DI cX10_behind 64 (.iload_n 2) 1 65 := ⟨by decide +kernel, rfl⟩
theorem dX10_behind_65 : DI cX10_behind 65 (.istore_n 2) 1 66 := ⟨by decide +kernel, rfl⟩
theorem dX10_behind_66 : DI cX10_behind 66 (.iinc 3 1) 3 69 := ⟨by decide +kernel, rfl⟩
theorem dX10_behind_69 : DB cX10_behind 69 (.goto (-65)) (-65) 3 72 4 := ⟨by decide +kernel, rfl, by decide⟩
theorem dX10_behind_72 : DI cX10_behind 72 (.iload_n 2) 1 73 := ⟨by decide +kernel, rfl⟩
theorem dX10_behind_73 : DI cX10_behind 73 (.ireturn) 1 74 := ⟨by decide +kernel, rfl⟩
theorem dX10_isAhead_0 : DI cX10_isAhead 0 (.aload_n 0) 1 1 := ⟨by decide +kernel, rfl⟩
theorem dX10_isAhead_1 : DI cX10_isAhead 1 (.getfield 48) 3 4 := ⟨by decide +kernel, rfl⟩
theorem dX10_isAhead_4 : DI cX10_isAhead 4 (.aload_n 0) 1 5 := ⟨by decide +kernel, rfl⟩
theorem dX10_isAhead_5 : DI cX10_isAhead 5 (.getfield 87) 3 8 := ⟨by decide +kernel, rfl⟩
theorem dX10_isAhead_8 : DI cX10_isAhead 8 (.iload_n 1) 1 9 := ⟨by decide +kernel, rfl⟩
theorem dX10_isAhead_9 : DI cX10_isAhead 9 (.iaload) 1 10 := ⟨by decide +kernel, rfl⟩
theorem dX10_isAhead_10 : DI cX10_isAhead 10 (.iaload) 1 11 := ⟨by decide +kernel, rfl⟩
theorem dX10_isAhead_11 : DI cX10_isAhead 11 (.istore_n 3) 1 12 := ⟨by decide +kernel, rfl⟩
theorem dX10_isAhead_12 : DI cX10_isAhead 12 (.aload_n 0) 1 13 := ⟨by decide +kernel, rfl⟩
theorem dX10_isAhead_13 : DI cX10_isAhead 13 (.getfield 48) 3 16 := ⟨by decide +kernel, rfl⟩
theorem dX10_isAhead_16 : DI cX10_isAhead 16 (.aload_n 0) 1 17 := ⟨by decide +kernel, rfl⟩
theorem dX10_isAhead_17 : DI cX10_isAhead 17 (.getfield 87) 3 20 := ⟨by decide +kernel, rfl⟩
theorem dX10_isAhead_20 : DI cX10_isAhead 20 (.iload_n 2) 1 21 := ⟨by decide +kernel, rfl⟩
theorem dX10_isAhead_21 : DI cX10_isAhead 21 (.iaload) 1 22 := ⟨by decide +kernel, rfl⟩
theorem dX10_isAhead_22 : DI cX10_isAhead 22 (.iaload) 1 23 := ⟨by decide +kernel, rfl⟩
theorem dX10_isAhead_23 : DI cX10_isAhead 23 (.istore 4) 2 25 := ⟨by decide +kernel, rfl⟩
theorem dX10_isAhead_25 : DI cX10_isAhead 25 (.iload_n 3) 1 26 := ⟨by decide +kernel, rfl⟩
theorem dX10_isAhead_26 : DI cX10_isAhead 26 (.iload 4) 2 28 := ⟨by decide +kernel, rfl⟩
theorem dX10_isAhead_28 : DB cX10_isAhead 28 (.if_icmp .eq 17) (17) 3 31 45 := ⟨by decide +kernel, rfl, by decide⟩
theorem dX10_isAhead_31 : DI cX10_isAhead 31 (.iload_n 3) 1 32 := ⟨by decide +kernel, rfl⟩
theorem dX10_isAhead_32 : DI cX10_isAhead 32 (.iload 4) 2 34 := ⟨by decide +kernel, rfl⟩
theorem dX10_isAhead_34 : DB cX10_isAhead 34 (.if_icmp .le 7) (7) 3 37 41 := ⟨by decide +kernel, rfl, by decide⟩
theorem dX10_isAhead_37 : DI cX10_isAhead 37 (.iconst 1) 1 38 := ⟨by decide +kernel, rfl⟩
theorem dX10_isAhead_38 : DB cX10_isAhead 38 (.goto 17) (17) 3 41 55 := ⟨by decide +kernel, rfl, by decide⟩
theorem dX10_isAhead_41 : DI cX10_isAhead 41 (.iconst 0) 1 42 := ⟨by decide +kernel, rfl⟩
theorem dX10_isAhead_42 : DB cX10_isAhead 42 (.goto 13) (13) 3 45 55 := ⟨by decide +kernel, rfl, by decide⟩
theorem dX10_isAhead_45 : DI cX10_isAhead 45 (.iload_n 1) 1 46 := ⟨by decide +kernel, rfl⟩
theorem dX10_isAhead_46 : DI cX10_isAhead 46 (.iload_n 2) 1 47 := ⟨by decide +kernel, rfl⟩
theorem dX10_isAhead_47 : DB cX10_isAhead 47 (.if_icmp .ge 7) (7) 3 50 54 := ⟨by decide +kernel, rfl, by decide⟩
theorem dX10_isAhead_50 : DI cX10_isAhead 50 (.iconst 1) 1 51 := ⟨by decide +kernel, rfl⟩
theorem dX10_isAhead_51 : DB cX10_isAhead 51 (.goto 4) (4) 3 54 55 := ⟨by decide +kernel, rfl, by decide⟩
theorem dX10_isAhead_54 : DI cX10_isAhead 54 (.iconst 0) 1 55 := ⟨by decide +kernel, rfl⟩
theorem dX10_isAhead_55 : DI cX10_isAhead 55 (.ireturn) 1 56 := ⟨by decide +kernel, rfl⟩
theorem dX10_serve_0 : DI cX10_serve 0 (.iload_n 1) 1 1 := ⟨by decide +kernel, rfl⟩
theorem dX10_serve_1 : DI cX10_serve 1 (.istore_n 3) 1 2 := ⟨by decide +kernel, rfl⟩
theorem dX10_serve_2 : DI cX10_serve 2 (.aload_n 0) 1 3 := ⟨by decide +kernel, rfl⟩
theorem dX10_serve_3 : DI cX10_serve 3 (.iconst (-1)) 1 4 := ⟨by decide +kernel, rfl⟩
theorem dX10_serve_4 : DI cX10_serve 4 (.invokevirtual 228) 3 7 := ⟨by decide +kernel, rfl⟩
theorem dX10_serve_7 : DI cX10_serve 7 (.istore 4) 2 9 := ⟨by decide +kernel, rfl⟩
theorem dX10_serve_9 : DI cX10_serve 9 (.iload 4) 2 11 := ⟨by decide +kernel, rfl⟩
theorem dX10_serve_11 : DI cX10_serve 11 (.iconst (-1)) 1 12 := ⟨by decide +kernel, rfl⟩
theorem dX10_serve_12 : DB cX10_serve 12 (.if_icmp .eq 75) (75) 3 15 87 := ⟨by decide +kernel, rfl, by decide⟩
theorem dX10_serve_15 : DI cX10_serve 15 (.iload_n 2) 1 16 := ⟨by decide +kernel, rfl⟩
theorem dX10_serve_16 : DB cX10_serve 16 (.ifCond .eq 9) (9) 3 19 25 := ⟨by decide +kernel, rfl, by decide⟩
theorem dX10_serve_19 : DI cX10_serve 19 (.sipush 1400) 3 22 := ⟨by decide +kernel, rfl⟩
theorem dX10_serve_22 : DB cX10_serve 22 (.goto 10) (10) 3 25 32 := ⟨by decide +kernel, rfl, by decide⟩
theorem dX10_serve_25 : DI cX10_serve 25 (.aload_n 0) 1 26 := ⟨by decide +kernel, rfl⟩
theorem dX10_serve_26 : DI cX10_serve 26 (.getfield 132) 3 29 := ⟨by decide +kernel, rfl⟩
theorem dX10_serve_29 : DI cX10_serve 29 (.iload 4) 2 31 := ⟨by decide +kernel, rfl⟩
theorem dX10_serve_31 : DI cX10_serve 31 (.iaload) 1 32 := ⟨by decide +kernel, rfl⟩
theorem dX10_serve_32 : DI cX10_serve 32 (.istore 5) 2 34 := ⟨by decide +kernel, rfl⟩
theorem dX10_serve_34 : DI cX10_serve 34 (.aload_n 0) 1 35 := ⟨by decide +kernel, rfl⟩
theorem dX10_serve_35 : DI cX10_serve 35 (.getfield 132) 3 38 := ⟨by decide +kernel, rfl⟩
theorem dX10_serve_38 : DI cX10_serve 38 (.iload 4) 2 40 := ⟨by decide +kernel, rfl⟩
theorem dX10_serve_40 : DI cX10_serve 40 (.iaload) 1 41 := ⟨by decide +kernel, rfl⟩
theorem dX10_serve_41 : DI cX10_serve 41 (.sipush 1400) 3 44 := ⟨by decide +kernel, rfl⟩
theorem dX10_serve_44 : DB cX10_serve 44 (.if_icmp .lt 7) (7) 3 47 51 := ⟨by decide +kernel, rfl, by decide⟩
theorem dX10_serve_47 : DI cX10_serve 47 (.iconst 1) 1 48 := ⟨by decide +kernel, rfl⟩
theorem dX10_serve_48 : DB cX10_serve 48 (.goto 4) (4) 3 51 52 := ⟨by decide +kernel, rfl, by decide⟩
theorem dX10_serve_51 : DI cX10_serve 51 (.iconst 0) 1 52 := ⟨by decide +kernel, rfl⟩
theorem dX10_serve_52 : DI cX10_serve 52 (.iload_n 2) 1 53 := ⟨by decide +kernel, rfl⟩
theorem dX10_serve_53 : DB cX10_serve 53 (.if_icmp .ne 23) (23) 3 56 76 := ⟨by decide +kernel, rfl, by decide⟩
theorem dX10_serve_56 : DI cX10_serve 56 (.iload 5) 2 58 := ⟨by decide +kernel, rfl⟩
theorem dX10_serve_58 : DI cX10_serve 58 (.iload_n 3) 1 59 := ⟨by decide +kernel, rfl⟩
theorem dX10_serve_59 : DB cX10_serve 59 (.if_icmp .gt 17) (17) 3 62 76 := ⟨by decide +kernel, rfl, by decide⟩
theorem dX10_serve_62 : DI cX10_serve 62 (.aload_n 0) 1 63 := ⟨by decide +kernel, rfl⟩
theorem dX10_serve_63 : DI cX10_serve 63 (.getfield 135) 3 66 := ⟨by decide +kernel, rfl⟩
theorem dX10_serve_66 : DI cX10_serve 66 (.iload 4) 2 68 := ⟨by decide +kernel, rfl⟩
theorem dX10_serve_68 : DI cX10_serve 68 (.iload 5) 2 70 := ⟨by decide +kernel, rfl⟩
theorem dX10_serve_70 : DI cX10_serve 70 (.iastore) 1 71 := ⟨by decide +kernel, rfl⟩
theorem dX10_serve_71 : DI cX10_serve 71 (.iload_n 3) 1 72 := ⟨by decide +kernel, rfl⟩
theorem dX10_serve_72 : DI cX10_serve 72 (.iload 5) 2 74 := ⟨by decide +kernel, rfl⟩
theorem dX10_serve_74 : DI cX10_serve 74 (.isub) 1 75 := ⟨by decide +kernel, rfl⟩
theorem dX10_serve_75 : DI cX10_serve 75 (.istore_n 3) 1 76 := ⟨by decide +kernel, rfl⟩
theorem dX10_serve_76 : DI cX10_serve 76 (.aload_n 0) 1 77 := ⟨by decide +kernel, rfl⟩
theorem dX10_serve_77 : DI cX10_serve 77 (.iload 4) 2 79 := ⟨by decide +kernel, rfl⟩
theorem dX10_serve_79 : DI cX10_serve 79 (.invokevirtual 228) 3 82 := ⟨by decide +kernel, rfl⟩
theorem dX10_serve_82 : DI cX10_serve 82 (.istore 4) 2 84 := ⟨by decide +kernel, rfl⟩
theorem dX10_serve_84 : DB cX10_serve 84 (.goto (-75)) (-75) 3 87 9 := ⟨by decide +kernel, rfl, by decide⟩
theorem dX10_serve_87 : DI cX10_serve 87 (.iload_n 3) 1 88 := ⟨by decide +kernel, rfl⟩
theorem dX10_serve_88 : DI cX10_serve 88 (.ireturn) 1 89 := ⟨by decide +kernel, rfl⟩
theorem dX10_isOpen_0 : DI cX10_isOpen 0 (.aload_n 0) 1 1 := ⟨by decide +kernel, rfl⟩
theorem dX10_isOpen_1 : DI cX10_isOpen 1 (.iload_n 1) 1 2 := ⟨by decide +kernel, rfl⟩
theorem dX10_isOpen_2 : DI cX10_isOpen 2 (.invokevirtual 221) 3 5 := ⟨by decide +kernel, rfl⟩
theorem dX10_isOpen_5 : DB cX10_isOpen 5 (.ifCond .eq 34) (34) 3 8 39 := ⟨by decide +kernel, rfl, by decide⟩
theorem dX10_isOpen_8 : DI cX10_isOpen 8 (.aload_n 0) 1 9 := ⟨by decide +kernel, rfl⟩
theorem dX10_isOpen_9 : DI cX10_isOpen 9 (.getfield 135) 3 12 := ⟨by decide +kernel, rfl⟩
theorem dX10_isOpen_12 : DI cX10_isOpen 12 (.iload_n 1) 1 13 := ⟨by decide +kernel, rfl⟩
theorem dX10_isOpen_13 : DI cX10_isOpen 13 (.iaload) 1 14 := ⟨by decide +kernel, rfl⟩
theorem dX10_isOpen_14 : DI cX10_isOpen 14 (.sipush 1400) 3 17 := ⟨by decide +kernel, rfl⟩
theorem dX10_isOpen_17 : DB cX10_isOpen 17 (.if_icmp .lt 22) (22) 3 20 39 := ⟨by decide +kernel, rfl, by decide⟩
theorem dX10_isOpen_20 : DI cX10_isOpen 20 (.aload_n 0) 1 21 := ⟨by decide +kernel, rfl⟩
theorem dX10_isOpen_21 : DI cX10_isOpen 21 (.getfield 135) 3 24 := ⟨by decide +kernel, rfl⟩
theorem dX10_isOpen_24 : DI cX10_isOpen 24 (.iload_n 1) 1 25 := ⟨by decide +kernel, rfl⟩
theorem dX10_isOpen_25 : DI cX10_isOpen 25 (.iaload) 1 26 := ⟨by decide +kernel, rfl⟩
theorem dX10_isOpen_26 : DI cX10_isOpen 26 (.aload_n 0) 1 27 := ⟨by decide +kernel, rfl⟩
theorem dX10_isOpen_27 : DI cX10_isOpen 27 (.getfield 132) 3 30 := ⟨by decide +kernel, rfl⟩
theorem dX10_isOpen_30 : DI cX10_isOpen 30 (.iload_n 1) 1 31 := ⟨by decide +kernel, rfl⟩
theorem dX10_isOpen_31 : DI cX10_isOpen 31 (.iaload) 1 32 := ⟨by decide +kernel, rfl⟩
theorem dX10_isOpen_32 : DB cX10_isOpen 32 (.if_icmp .ge 7) (7) 3 35 39 := ⟨by decide +kernel, rfl, by decide⟩
theorem dX10_isOpen_35 : DI cX10_isOpen 35 (.iconst 1) 1 36 := ⟨by decide +kernel, rfl⟩
theorem dX10_isOpen_36 : DB cX10_isOpen 36 (.goto 4) (4) 3 39 40 := ⟨by decide +kernel, rfl, by decide⟩
theorem dX10_isOpen_39 : DI cX10_isOpen 39 (.iconst 0) 1 40 := ⟨by decide +kernel, rfl⟩
theorem dX10_isOpen_40 : DI cX10_isOpen 40 (.ireturn) 1 41 := ⟨by decide +kernel, rfl⟩
theorem dX10_share_0 : DI cX10_share 0 (.iload_n 1) 1 1 := ⟨by decide +kernel, rfl⟩
theorem dX10_share_1 : DI cX10_share 1 (.istore_n 2) 1 2 := ⟨by decide +kernel, rfl⟩
theorem dX10_share_2 : DI cX10_share 2 (.iload_n 2) 1 3 := ⟨by decide +kernel, rfl⟩
theorem dX10_share_3 : DB cX10_share 3 (.ifCond .le 296) (296) 3 6 299 := ⟨by decide +kernel, rfl, by decide⟩
theorem dX10_share_6 : DI cX10_share 6 (.iconst (-1)) 1 7 := ⟨by decide +kernel, rfl⟩
theorem dX10_share_7 : DI cX10_share 7 (.istore_n 3) 1 8 := ⟨by decide +kernel, rfl⟩
theorem dX10_share_8 : DI cX10_share 8 (.iconst 0) 1 9 := ⟨by decide +kernel, rfl⟩
theorem dX10_share_9 : DI cX10_share 9 (.istore 4) 2 11 := ⟨by decide +kernel, rfl⟩
theorem dX10_share_11 : DI cX10_share 11 (.iload 4) 2 13 := ⟨by decide +kernel, rfl⟩
theorem dX10_share_13 : DI cX10_share 13 (.aload_n 0) 1 14 := ⟨by decide +kernel, rfl⟩
theorem dX10_share_14 : DI cX10_share 14 (.getfield 151) 3 17 := ⟨by decide +kernel, rfl⟩
theorem dX10_share_17 : DB cX10_share 17 (.if_icmp .ge 46) (46) 3 20 63 := ⟨by decide +kernel, rfl, by decide⟩
theorem dX10_share_20 : DI cX10_share 20 (.aload_n 0) 1 21 := ⟨by decide +kernel, rfl⟩
theorem dX10_share_21 : DI cX10_share 21 (.iload 4) 2 23 := ⟨by decide +kernel, rfl⟩
theorem dX10_share_23 : DI cX10_share 23 (.invokevirtual 231) 3 26 := ⟨by decide +kernel, rfl⟩
theorem dX10_share_26 : DB cX10_share 26 (.ifCond .eq 29) (29) 3 29 55 := ⟨by decide +kernel, rfl, by decide⟩
theorem dX10_share_29 : DI cX10_share 29 (.iload_n 3) 1 30 := ⟨by decide +kernel, rfl⟩
theorem dX10_share_30 : DI cX10_share 30 (.iconst (-1)) 1 31 := ⟨by decide +kernel, rfl⟩
theorem dX10_share_31 : DB cX10_share 31 (.if_icmp .eq 14) (14) 3 34 45 := ⟨by decide +kernel, rfl, by decide⟩
theorem dX10_share_34 : DI cX10_share 34 (.aload_n 0) 1 35 := ⟨by decide +kernel, rfl⟩
theorem dX10_share_35 : DI cX10_share 35 (.getfield 135) 3 38 := ⟨by decide +kernel, rfl⟩
theorem dX10_share_38 : DI cX10_share 38 (.iload 4) 2 40 := ⟨by decide +kernel, rfl⟩
theorem dX10_share_40 : DI cX10_share 40 (.iaload) 1 41 := ⟨by decide +kernel, rfl⟩
theorem dX10_share_41 : DI cX10_share 41 (.iload_n 3) 1 42 := ⟨by decide +kernel, rfl⟩
theorem dX10_share_42 : DB cX10_share 42 (.if_icmp .ge 13) (13) 3 45 55 := ⟨by decide +kernel, rfl, by decide⟩
theorem dX10_share_45 : DI cX10_share 45 (.aload_n 0) 1 46 := ⟨by decide +kernel, rfl⟩
theorem dX10_share_46 : DI cX10_share 46 (.getfield 135) 3 49 := ⟨by decide +kernel, rfl⟩
theorem dX10_share_49 : DI cX10_share 49 (.iload 4) 2 51 := ⟨by decide +kernel, rfl⟩
theorem dX10_share_51 : DI cX10_share 51 (.iaload) 1 52 := ⟨by decide +kernel, rfl⟩
theorem dX10_share_52 : DB cX10_share 52 (.goto 4) (4) 3 55 56 := ⟨by decide +kernel, rfl, by decide⟩
theorem dX10_share_55 : DI cX10_share 55 (.iload_n 3) 1 56 := ⟨by decide +kernel, rfl⟩
theorem dX10_share_56 : DI cX10_share 56 (.istore_n 3) 1 57 := ⟨by decide +kernel, rfl⟩
theorem dX10_share_57 : DI cX10_share 57 (.iinc 4 1) 3 60 := ⟨by decide +kernel, rfl⟩
theorem dX10_share_60 : DB cX10_share 60 (.goto (-49)) (-49) 3 63 11 := ⟨by decide +kernel, rfl, by decide⟩
theorem dX10_share_63 : DI cX10_share 63 (.iload_n 3) 1 64 := ⟨by decide +kernel, rfl⟩
theorem dX10_share_64 : DI cX10_share 64 (.iconst (-1)) 1 65 := ⟨by decide +kernel, rfl⟩
theorem dX10_share_65 : DB cX10_share 65 (.if_icmp .ne 4) (4) 3 68 69 := ⟨by decide +kernel, rfl, by decide⟩
theorem dX10_share_68 : DI cX10_share 68 (.return_) 1 69 := ⟨by decide +kernel, rfl⟩
theorem dX10_share_69 : DI cX10_share 69 (.iconst 0) 1 70 := ⟨by decide +kernel, rfl⟩
theorem dX10_share_70 : DI cX10_share 70 (.istore 4) 2 72 := ⟨by decide +kernel, rfl⟩
theorem dX10_share_72 : DI cX10_share 72 (.ldc 234) 2 74 := ⟨by decide +kernel, rfl⟩
theorem dX10_share_74 : DI cX10_share 74 (.istore 5) 2 76 := ⟨by decide +kernel, rfl⟩
theorem dX10_share_76 : DI cX10_share 76 (.iconst 0) 1 77 := ⟨by decide +kernel, rfl⟩
theorem dX10_share_77 : DI cX10_share 77 (.istore 6) 2 79 := ⟨by decide +kernel, rfl⟩
theorem dX10_share_79 : DI cX10_share 79 (.iload 6) 2 81 := ⟨by decide +kernel, rfl⟩
theorem dX10_share_81 : DI cX10_share 81 (.aload_n 0) 1 82 := ⟨by decide +kernel, rfl⟩
theorem dX10_share_82 : DI cX10_share 82 (.getfield 151) 3 85 := ⟨by decide +kernel, rfl⟩
theorem dX10_share_85 : DB cX10_share 85 (.if_icmp .ge 85) (85) 3 88 170 := ⟨by decide +kernel, rfl, by decide⟩
theorem dX10_share_88 : DI cX10_share 88 (.aload_n 0) 1 89 := ⟨by decide +kernel, rfl⟩
theorem dX10_share_89 : DI cX10_share 89 (.iload 6) 2 91 := ⟨by decide +kernel, rfl⟩
theorem dX10_share_91 : DI cX10_share 91 (.invokevirtual 231) 3 94 := ⟨by decide +kernel, rfl⟩
theorem dX10_share_94 : DB cX10_share 94 (.ifCond .eq 70) (70) 3 97 164 := ⟨by decide +kernel, rfl, by decide⟩
theorem dX10_share_97 : DI cX10_share 97 (.aload_n 0) 1 98 := ⟨by decide +kernel, rfl⟩
theorem dX10_share_98 : DI cX10_share 98 (.getfield 135) 3 101 := ⟨by decide +kernel, rfl⟩
theorem dX10_share_101 : DI cX10_share 101 (.iload 6) 2 103 := ⟨by decide +kernel, rfl⟩
theorem dX10_share_103 : DI cX10_share 103 (.iaload) 1 104 := ⟨by decide +kernel, rfl⟩
theorem dX10_share_104 : DI cX10_share 104 (.iload_n 3) 1 105 := ⟨by decide +kernel, rfl⟩
theorem dX10_share_105 : DB cX10_share 105 (.if_icmp .ne 13) (13) 3 108 118 := ⟨by decide +kernel, rfl, by decide⟩
theorem dX10_share_108 : DI cX10_share 108 (.aload_n 0) 1 109 := ⟨by decide +kernel, rfl⟩
theorem dX10_share_109 : DI cX10_share 109 (.getfield 132) 3 112 := ⟨by decide +kernel, rfl⟩
theorem dX10_share_112 : DI cX10_share 112 (.iload 6) 2 114 := ⟨by decide +kernel, rfl⟩
theorem dX10_share_114 : DI cX10_share 114 (.iaload) 1 115 := ⟨by decide +kernel, rfl⟩
theorem dX10_share_115 : DB cX10_share 115 (.goto 10) (10) 3 118 125 := ⟨by decide +kernel, rfl, by decide⟩
theorem dX10_share_118 : DI cX10_share 118 (.aload_n 0) 1 119 := ⟨by decide +kernel, rfl⟩
theorem dX10_share_119 : DI cX10_share 119 (.getfield 135) 3 122 := ⟨by decide +kernel, rfl⟩
theorem dX10_share_122 : DI cX10_share 122 (.iload 6) 2 124 := ⟨by decide +kernel, rfl⟩
theorem dX10_share_124 : DI cX10_share 124 (.iaload) 1 125 := ⟨by decide +kernel, rfl⟩
theorem dX10_share_125 : DI cX10_share 125 (.istore 7) 2 127 := ⟨by decide +kernel, rfl⟩
theorem dX10_share_127 : DI cX10_share 127 (.iload 7) 2 129 := ⟨by decide +kernel, rfl⟩
theorem dX10_share_129 : DI cX10_share 129 (.iload 5) 2 131 := ⟨by decide +kernel, rfl⟩
theorem dX10_share_131 : DB cX10_share 131 (.if_icmp .ge 8) (8) 3 134 139 := ⟨by decide +kernel, rfl, by decide⟩
theorem dX10_share_134 : DI cX10_share 134 (.iload 7) 2 136 := ⟨by decide +kernel, rfl⟩
theorem dX10_share_136 : DB cX10_share 136 (.goto 5) (5) 3 139 141 := ⟨by decide +kernel, rfl, by decide⟩
theorem dX10_share_139 : DI cX10_share 139 (.iload 5) 2 141 := ⟨by decide +kernel, rfl⟩
theorem dX10_share_141 : DI cX10_share 141 (.istore 5) 2 143 := ⟨by decide +kernel, rfl⟩
theorem dX10_share_143 : DI cX10_share 143 (.iload 4) 2 145 := ⟨by decide +kernel, rfl⟩
theorem dX10_share_145 : DI cX10_share 145 (.aload_n 0) 1 146 := ⟨by decide +kernel, rfl⟩
theorem dX10_share_146 : DI cX10_share 146 (.getfield 135) 3 149 := ⟨by decide +kernel, rfl⟩
theorem dX10_share_149 : DI cX10_share 149 (.iload 6) 2 151 := ⟨by decide +kernel, rfl⟩
theorem dX10_share_151 : DI cX10_share 151 (.iaload) 1 152 := ⟨by decide +kernel, rfl⟩
theorem dX10_share_152 : DI cX10_share 152 (.iload_n 3) 1 153 := ⟨by decide +kernel, rfl⟩
theorem dX10_share_153 : DB cX10_share 153 (.if_icmp .ne 7) (7) 3 156 160 := ⟨by decide +kernel, rfl, by decide⟩
theorem dX10_share_156 : DI cX10_share 156 (.iconst 1) 1 157 := ⟨by decide +kernel, rfl⟩
theorem dX10_share_157 : DB cX10_share 157 (.goto 4) (4) 3 160 161 := ⟨by decide +kernel, rfl, by decide⟩
theorem dX10_share_160 : DI cX10_share 160 (.iconst 0) 1 161 := ⟨by decide +kernel, rfl⟩
theorem dX10_share_161 : DI cX10_share 161 (.iadd) 1 162 := ⟨by decide +kernel, rfl⟩
theorem dX10_share_162 : DI cX10_share 162 (.istore 4) 2 164 := ⟨by decide +kernel, rfl⟩
theorem dX10_share_164 : DI cX10_share 164 (.iinc 6 1) 3 167 := ⟨by decide +kernel, rfl⟩
theorem dX10_share_167 : DB cX10_share 167 (.goto (-88)) (-88) 3 170 79 := ⟨by decide +kernel, rfl, by decide⟩
theorem dX10_share_170 : DI cX10_share 170 (.iload 5) 2 172 := ⟨by decide +kernel, rfl⟩
theorem dX10_share_172 : DI cX10_share 172 (.iload_n 3) 1 173 := ⟨by decide +kernel, rfl⟩
theorem dX10_share_173 : DI cX10_share 173 (.isub) 1 174 := ⟨by decide +kernel, rfl⟩
theorem dX10_share_174 : DI cX10_share 174 (.iload_n 2) 1 175 := ⟨by decide +kernel, rfl⟩
theorem dX10_share_175 : DI cX10_share 175 (.iload 4) 2 177 := ⟨by decide +kernel, rfl⟩
theorem dX10_share_177 : DI cX10_share 177 (.idiv) 1 178 := ⟨by decide +kernel, rfl⟩
theorem dX10_share_178 : DB cX10_share 178 (.if_icmp .ge 10) (10) 3 181 188 := ⟨by decide +kernel, rfl, by decide⟩
theorem dX10_share_181 : DI cX10_share 181 (.iload 5) 2 183 := ⟨by decide +kernel, rfl⟩
theorem dX10_share_183 : DI cX10_share 183 (.iload_n 3) 1 184 := ⟨by decide +kernel, rfl⟩
theorem dX10_share_184 : DI cX10_share 184 (.isub) 1 185 := ⟨by decide +kernel, rfl⟩
theorem dX10_share_185 : DB cX10_share 185 (.goto 7) (7) 3 188 192 := ⟨by decide +kernel, rfl, by decide⟩
theorem dX10_share_188 : DI cX10_share 188 (.iload_n 2) 1 189 := ⟨by decide +kernel, rfl⟩
theorem dX10_share_189 : DI cX10_share 189 (.iload 4) 2 191 := ⟨by decide +kernel, rfl⟩
theorem dX10_share_191 : DI cX10_share 191 (.idiv) 1 192 := ⟨by decide +kernel, rfl⟩
theorem dX10_share_192 : DI cX10_share 192 (.istore 6) 2 194 := ⟨by decide +kernel, rfl⟩
theorem dX10_share_194 : DI cX10_share 194 (.iload 6) 2 196 := ⟨by decide +kernel, rfl⟩
theorem dX10_share_196 : DB cX10_share 196 (.ifCond .ne 7) (7) 3 199 203 := ⟨by decide +kernel, rfl, by decide⟩
theorem dX10_share_199 : DI cX10_share 199 (.iload_n 2) 1 200 := ⟨by decide +kernel, rfl⟩
theorem dX10_share_200 : DB cX10_share 200 (.goto 4) (4) 3 203 204 := ⟨by decide +kernel, rfl, by decide⟩
theorem dX10_share_203 : DI cX10_share 203 (.iconst 0) 1 204 := ⟨by decide +kernel, rfl⟩
theorem dX10_share_204 : DI cX10_share 204 (.istore 7) 2 206 := ⟨by decide +kernel, rfl⟩
theorem dX10_share_206 : DI cX10_share 206 (.iload_n 2) 1 207 := ⟨by decide +kernel, rfl⟩
theorem dX10_share_207 : DI cX10_share 207 (.iload 6) 2 209 := ⟨by decide +kernel, rfl⟩
theorem dX10_share_209 : DI cX10_share 209 (.iload 4) 2 211 := ⟨by decide +kernel, rfl⟩
theorem dX10_share_211 : DI cX10_share 211 (.imul) 1 212 := ⟨by decide +kernel, rfl⟩
theorem dX10_share_212 : DI cX10_share 212 (.isub) 1 213 := ⟨by decide +kernel, rfl⟩
theorem dX10_share_213 : DI cX10_share 213 (.istore_n 2) 1 214 := ⟨by decide +kernel, rfl⟩
theorem dX10_share_214 : DI cX10_share 214 (.iconst 0) 1 215 := ⟨by decide +kernel, rfl⟩
theorem dX10_share_215 : DI cX10_share 215 (.istore 8) 2 217 := ⟨by decide +kernel, rfl⟩
theorem dX10_share_217 : DI cX10_share 217 (.iload 8) 2 219 := ⟨by decide +kernel, rfl⟩
theorem dX10_share_219 : DI cX10_share 219 (.aload_n 0) 1 220 := ⟨by decide +kernel, rfl⟩
theorem dX10_share_220 : DI cX10_share 220 (.getfield 151) 3 223 := ⟨by decide +kernel, rfl⟩
theorem dX10_share_223 : DB cX10_share 223 (.if_icmp .ge 62) (62) 3 226 285 := ⟨by decide +kernel, rfl, by decide⟩
theorem dX10_share_226 : DI cX10_share 226 (.aload_n 0) 1 227 := ⟨by decide +kernel, rfl⟩
theorem dX10_share_227 : DI cX10_share 227 (.iload 8) 2 229 := ⟨by decide +kernel, rfl⟩
theorem dX10_share_229 : DI cX10_share 229 (.invokevirtual 231) 3 232 := ⟨by decide +kernel, rfl⟩
theorem dX10_share_232 : DB cX10_share 232 (.ifCond .eq 47) (47) 3 235 279 := ⟨by decide +kernel, rfl, by decide⟩
theorem dX10_share_235 : DI cX10_share 235 (.aload_n 0) 1 236 := ⟨by decide +kernel, rfl⟩
theorem dX10_share_236 : DI cX10_share 236 (.getfield 135) 3 239 := ⟨by decide +kernel, rfl⟩
theorem dX10_share_239 : DI cX10_share 239 (.iload 8) 2 241 := ⟨by decide +kernel, rfl⟩
theorem dX10_share_241 : DI cX10_share 241 (.iaload) 1 242 := ⟨by decide +kernel, rfl⟩
theorem dX10_share_242 : DI cX10_share 242 (.iload_n 3) 1 243 := ⟨by decide +kernel, rfl⟩
theorem dX10_share_243 : DB cX10_share 243 (.if_icmp .ne 36) (36) 3 246 279 := ⟨by decide +kernel, rfl, by decide⟩
theorem dX10_share_246 : DI cX10_share 246 (.aload_n 0) 1 247 := ⟨by decide +kernel, rfl⟩
theorem dX10_share_247 : DI cX10_share 247 (.getfield 135) 3 250 := ⟨by decide +kernel, rfl⟩
theorem dX10_share_250 : DI cX10_share 250 (.iload 8) 2 252 := ⟨by decide +kernel, rfl⟩
theorem dX10_share_252 : DI cX10_share 252 (.dup2) 1 253 := ⟨by decide +kernel, rfl⟩
theorem dX10_share_253 : DI cX10_share 253 (.iaload) 1 254 := ⟨by decide +kernel, rfl⟩
theorem dX10_share_254 : DI cX10_share 254 (.iload 6) 2 256 := ⟨by decide +kernel, rfl⟩
theorem dX10_share_256 : DB cX10_share 256 (.ifCond .le 8) (8) 3 259 264 := ⟨by decide +kernel, rfl, by decide⟩
theorem dX10_share_259 : DI cX10_share 259 (.iload 6) 2 261 := ⟨by decide +kernel, rfl⟩
theorem dX10_share_261 : DB cX10_share 261 (.goto 13) (13) 3 264 274 := ⟨by decide +kernel, rfl, by decide⟩
theorem dX10_share_264 : DI cX10_share 264 (.iload 7) 2 266 := ⟨by decide +kernel, rfl⟩
theorem dX10_share_266 : DB cX10_share 266 (.ifCond .le 7) (7) 3 269 273 := ⟨by decide +kernel, rfl, by decide⟩
theorem dX10_share_269 : DI cX10_share 269 (.iconst 1) 1 270 := ⟨by decide +kernel, rfl⟩
theorem dX10_share_270 : DB cX10_share 270 (.goto 4) (4) 3 273 274 := ⟨by decide +kernel, rfl, by decide⟩
theorem dX10_share_273 : DI cX10_share 273 (.iconst 0) 1 274 := ⟨by decide +kernel, rfl⟩
theorem dX10_share_274 : DI cX10_share 274 (.iadd) 1 275 := ⟨by decide +kernel, rfl⟩
theorem dX10_share_275 : DI cX10_share 275 (.iastore) 1 276 := ⟨by decide +kernel, rfl⟩
theorem dX10_share_276 : DI cX10_share 276 (.iinc 7 (-1)) 3 279 := ⟨by decide +kernel, rfl⟩
theorem dX10_share_279 : DI cX10_share 279 (.iinc 8 1) 3 282 := ⟨by decide +kernel, rfl⟩
theorem dX10_share_282 : DB cX10_share 282 (.goto (-65)) (-65) 3 285 217 := ⟨by decide +kernel, rfl, by decide⟩
theorem dX10_share_285 : DI cX10_share 285 (.iload 6) 2 287 := ⟨by decide +kernel, rfl⟩
theorem dX10_share_287 : DB cX10_share 287 (.ifCond .ne 7) (7) 3 290 294 := ⟨by decide +kernel, rfl, by decide⟩
theorem dX10_share_290 : DI cX10_share 290 (.iconst 0) 1 291 := ⟨by decide +kernel, rfl⟩
theorem dX10_share_291 : DB cX10_share 291 (.goto 4) (4) 3 294 295 := ⟨by decide +kernel, rfl, by decide⟩
theorem dX10_share_294 : DI cX10_share 294 (.iload_n 2) 1 295 := ⟨by decide +kernel, rfl⟩
theorem dX10_share_295 : DI cX10_share 295 (.istore_n 2) 1 296 := ⟨by decide +kernel, rfl⟩
theorem dX10_share_296 : DB cX10_share 296 (.goto (-294)) (-294) 3 299 2 := ⟨by decide +kernel, rfl, by decide⟩
theorem dX10_share_299 : DI cX10_share 299 (.return_) 1 300 := ⟨by decide +kernel, rfl⟩
theorem dX10_find_0 : DI cX10_find 0 (.aload_n 0) 1 1 := ⟨by decide +kernel, rfl⟩
theorem dX10_find_1 : DI cX10_find 1 (.getfield 7) 3 4 := ⟨by decide +kernel, rfl⟩
theorem dX10_find_4 : DI cX10_find 4 (.aload_n 0) 1 5 := ⟨by decide +kernel, rfl⟩
theorem dX10_find_5 : DI cX10_find 5 (.getfield 175) 3 8 := ⟨by decide +kernel, rfl⟩
theorem dX10_find_8 : DI cX10_find 8 (.iadd) 1 9 := ⟨by decide +kernel, rfl⟩
theorem dX10_find_9 : DI cX10_find 9 (.istore_n 1) 1 10 := ⟨by decide +kernel, rfl⟩
theorem dX10_find_10 : DI cX10_find 10 (.iconst 0) 1 11 := ⟨by decide +kernel, rfl⟩
theorem dX10_find_11 : DI cX10_find 11 (.istore_n 2) 1 12 := ⟨by decide +kernel, rfl⟩
theorem dX10_find_12 : DI cX10_find 12 (.iload_n 2) 1 13 := ⟨by decide +kernel, rfl⟩
theorem dX10_find_13 : DI cX10_find 13 (.aload_n 0) 1 14 := ⟨by decide +kernel, rfl⟩
theorem dX10_find_14 : DI cX10_find 14 (.getfield 151) 3 17 := ⟨by decide +kernel, rfl⟩
theorem dX10_find_17 : DB cX10_find 17 (.if_icmp .ge 148) (148) 3 20 165 := ⟨by decide +kernel, rfl, by decide⟩
theorem dX10_find_20 : DI cX10_find 20 (.aload_n 0) 1 21 := ⟨by decide +kernel, rfl⟩
theorem dX10_find_21 : DI cX10_find 21 (.getfield 81) 3 24 := ⟨by decide +kernel, rfl⟩
theorem dX10_find_24 : DI cX10_find 24 (.iload_n 2) 1 25 := ⟨by decide +kernel, rfl⟩
theorem dX10_find_25 : DI cX10_find 25 (.iaload) 1 26 := ⟨by decide +kernel, rfl⟩
theorem dX10_find_26 : DI cX10_find 26 (.istore_n 3) 1 27 := ⟨by decide +kernel, rfl⟩
theorem dX10_find_27 : DI cX10_find 27 (.aload_n 0) 1 28 := ⟨by decide +kernel, rfl⟩
theorem dX10_find_28 : DI cX10_find 28 (.getfield 90) 3 31 := ⟨by decide +kernel, rfl⟩
theorem dX10_find_31 : DI cX10_find 31 (.iload_n 2) 1 32 := ⟨by decide +kernel, rfl⟩
theorem dX10_find_32 : DI cX10_find 32 (.iaload) 1 33 := ⟨by decide +kernel, rfl⟩
theorem dX10_find_33 : DI cX10_find 33 (.iconst 1) 1 34 := ⟨by decide +kernel, rfl⟩
theorem dX10_find_34 : DB cX10_find 34 (.if_icmp .ne 25) (25) 3 37 59 := ⟨by decide +kernel, rfl, by decide⟩
theorem dX10_find_37 : DI cX10_find 37 (.aload_n 0) 1 38 := ⟨by decide +kernel, rfl⟩
theorem dX10_find_38 : DI cX10_find 38 (.getfield 23) 3 41 := ⟨by decide +kernel, rfl⟩
theorem dX10_find_41 : DI cX10_find 41 (.iload_n 3) 1 42 := ⟨by decide +kernel, rfl⟩
theorem dX10_find_42 : DI cX10_find 42 (.baload) 1 43 := ⟨by decide +kernel, rfl⟩
theorem dX10_find_43 : DB cX10_find 43 (.ifCond .ne 16) (16) 3 46 59 := ⟨by decide +kernel, rfl, by decide⟩
theorem dX10_find_46 : DI cX10_find 46 (.aload_n 0) 1 47 := ⟨by decide +kernel, rfl⟩
theorem dX10_find_47 : DI cX10_find 47 (.aload_n 0) 1 48 := ⟨by decide +kernel, rfl⟩
theorem dX10_find_48 : DI cX10_find 48 (.getfield 84) 3 51 := ⟨by decide +kernel, rfl⟩
theorem dX10_find_51 : DI cX10_find 51 (.iload_n 2) 1 52 := ⟨by decide +kernel, rfl⟩
theorem dX10_find_52 : DI cX10_find 52 (.iaload) 1 53 := ⟨by decide +kernel, rfl⟩
theorem dX10_find_53 : DI cX10_find 53 (.invokevirtual 235) 3 56 := ⟨by decide +kernel, rfl⟩
theorem dX10_find_56 : DB cX10_find 56 (.goto 4) (4) 3 59 60 := ⟨by decide +kernel, rfl, by decide⟩
theorem dX10_find_59 : DI cX10_find 59 (.iconst 0) 1 60 := ⟨by decide +kernel, rfl⟩
theorem dX10_find_60 : DI cX10_find 60 (.istore 4) 2 62 := ⟨by decide +kernel, rfl⟩
theorem dX10_find_62 : DI cX10_find 62 (.aload_n 0) 1 63 := ⟨by decide +kernel, rfl⟩
theorem dX10_find_63 : DI cX10_find 63 (.getfield 132) 3 66 := ⟨by decide +kernel, rfl⟩
theorem dX10_find_66 : DI cX10_find 66 (.iload_n 2) 1 67 := ⟨by decide +kernel, rfl⟩
theorem dX10_find_67 : DI cX10_find 67 (.iload 4) 2 69 := ⟨by decide +kernel, rfl⟩
theorem dX10_find_69 : DI cX10_find 69 (.aload_n 0) 1 70 := ⟨by decide +kernel, rfl⟩
theorem dX10_find_70 : DI cX10_find 70 (.getfield 20) 3 73 := ⟨by decide +kernel, rfl⟩
theorem dX10_find_73 : DI cX10_find 73 (.iload_n 3) 1 74 := ⟨by decide +kernel, rfl⟩
theorem dX10_find_74 : DI cX10_find 74 (.iaload) 1 75 := ⟨by decide +kernel, rfl⟩
theorem dX10_find_75 : DB cX10_find 75 (.if_icmp .ge 8) (8) 3 78 83 := ⟨by decide +kernel, rfl, by decide⟩
theorem dX10_find_78 : DI cX10_find 78 (.iload 4) 2 80 := ⟨by decide +kernel, rfl⟩
theorem dX10_find_80 : DB cX10_find 80 (.goto 9) (9) 3 83 89 := ⟨by decide +kernel, rfl, by decide⟩
theorem dX10_find_83 : DI cX10_find 83 (.aload_n 0) 1 84 := ⟨by decide +kernel, rfl⟩
theorem dX10_find_84 : DI cX10_find 84 (.getfield 20) 3 87 := ⟨by decide +kernel, rfl⟩
theorem dX10_find_87 : DI cX10_find 87 (.iload_n 3) 1 88 := ⟨by decide +kernel, rfl⟩
theorem dX10_find_88 : DI cX10_find 88 (.iaload) 1 89 := ⟨by decide +kernel, rfl⟩
theorem dX10_find_89 : DI cX10_find 89 (.iastore) 1 90 := ⟨by decide +kernel, rfl⟩
theorem dX10_find_90 : DI cX10_find 90 (.aload_n 0) 1 91 := ⟨by decide +kernel, rfl⟩
theorem dX10_find_91 : DI cX10_find 91 (.getfield 135) 3 94 := ⟨by decide +kernel, rfl⟩
theorem dX10_find_94 : DI cX10_find 94 (.iload_n 2) 1 95 := ⟨by decide +kernel, rfl⟩
theorem dX10_find_95 : DI cX10_find 95 (.iconst 0) 1 96 := ⟨by decide +kernel, rfl⟩
theorem dX10_find_96 : DI cX10_find 96 (.iastore) 1 97 := ⟨by decide +kernel, rfl⟩
theorem dX10_find_97 : DI cX10_find 97 (.aload_n 0) 1 98 := ⟨by decide +kernel, rfl⟩
theorem dX10_find_98 : DI cX10_find 98 (.getfield 90) 3 101 := ⟨by decide +kernel, rfl⟩
theorem dX10_find_101 : DI cX10_find 101 (.iload_n 2) 1 102 := ⟨by decide +kernel, rfl⟩
theorem dX10_find_102 : DI cX10_find 102 (.iaload) 1 103 := ⟨by decide +kernel, rfl⟩
theorem dX10_find_103 : DI cX10_find 103 (.iconst 1) 1 104 := ⟨by decide +kernel, rfl⟩
theorem dX10_find_104 : DB cX10_find 104 (.if_icmp .ne 55) (55) 3 107 159 := ⟨by decide +kernel, rfl, by decide⟩
theorem dX10_find_107 : DI cX10_find 107 (.aload_n 0) 1 108 := ⟨by decide +kernel, rfl⟩
theorem dX10_find_108 : DI cX10_find 108 (.getfield 27) 3 111 := ⟨by decide +kernel, rfl⟩
theorem dX10_find_111 : DI cX10_find 111 (.iload_n 3) 1 112 := ⟨by decide +kernel, rfl⟩
theorem dX10_find_112 : DI cX10_find 112 (.baload) 1 113 := ⟨by decide +kernel, rfl⟩
theorem dX10_find_113 : DB cX10_find 113 (.ifCond .eq 46) (46) 3 116 159 := ⟨by decide +kernel, rfl, by decide⟩
theorem dX10_find_116 : DI cX10_find 116 (.aload_n 0) 1 117 := ⟨by decide +kernel, rfl⟩
theorem dX10_find_117 : DI cX10_find 117 (.getfield 135) 3 120 := ⟨by decide +kernel, rfl⟩
theorem dX10_find_120 : DI cX10_find 120 (.iload_n 2) 1 121 := ⟨by decide +kernel, rfl⟩
theorem dX10_find_121 : DI cX10_find 121 (.aload_n 0) 1 122 := ⟨by decide +kernel, rfl⟩
theorem dX10_find_122 : DI cX10_find 122 (.getfield 132) 3 125 := ⟨by decide +kernel, rfl⟩
theorem dX10_find_125 : DI cX10_find 125 (.iload_n 2) 1 126 := ⟨by decide +kernel, rfl⟩
theorem dX10_find_126 : DI cX10_find 126 (.iaload) 1 127 := ⟨by decide +kernel, rfl⟩
theorem dX10_find_127 : DI cX10_find 127 (.aload_n 0) 1 128 := ⟨by decide +kernel, rfl⟩
theorem dX10_find_128 : DI cX10_find 128 (.iload_n 2) 1 129 := ⟨by decide +kernel, rfl⟩
theorem dX10_find_129 : DI cX10_find 129 (.invokevirtual 238) 3 132 := ⟨by decide +kernel, rfl⟩
theorem dX10_find_132 : DB cX10_find 132 (.if_icmp .ge 12) (12) 3 135 144 := ⟨by decide +kernel, rfl, by decide⟩
theorem dX10_find_135 : DI cX10_find 135 (.aload_n 0) 1 136 := ⟨by decide +kernel, rfl⟩
theorem dX10_find_136 : DI cX10_find 136 (.getfield 132) 3 139 := ⟨by decide +kernel, rfl⟩
theorem dX10_find_139 : DI cX10_find 139 (.iload_n 2) 1 140 := ⟨by decide +kernel, rfl⟩
theorem dX10_find_140 : DI cX10_find 140 (.iaload) 1 141 := ⟨by decide +kernel, rfl⟩
theorem dX10_find_141 : DB cX10_find 141 (.goto 8) (8) 3 144 149 := ⟨by decide +kernel, rfl, by decide⟩
theorem dX10_find_144 : DI cX10_find 144 (.aload_n 0) 1 145 := ⟨by decide +kernel, rfl⟩
theorem dX10_find_145 : DI cX10_find 145 (.iload_n 2) 1 146 := ⟨by decide +kernel, rfl⟩
theorem dX10_find_146 : DI cX10_find 146 (.invokevirtual 238) 3 149 := ⟨by decide +kernel, rfl⟩
theorem dX10_find_149 : DI cX10_find 149 (.iastore) 1 150 := ⟨by decide +kernel, rfl⟩
theorem dX10_find_150 : DI cX10_find 150 (.iload_n 1) 1 151 := ⟨by decide +kernel, rfl⟩
theorem dX10_find_151 : DI cX10_find 151 (.aload_n 0) 1 152 := ⟨by decide +kernel, rfl⟩
theorem dX10_find_152 : DI cX10_find 152 (.getfield 135) 3 155 := ⟨by decide +kernel, rfl⟩
theorem dX10_find_155 : DI cX10_find 155 (.iload_n 2) 1 156 := ⟨by decide +kernel, rfl⟩
theorem dX10_find_156 : DI cX10_find 156 (.iaload) 1 157 := ⟨by decide +kernel, rfl⟩
theorem dX10_find_157 : DI cX10_find 157 (.isub) 1 158 := ⟨by decide +kernel, rfl⟩
theorem dX10_find_158 : DI cX10_find 158 (.istore_n 1) 1 159 := ⟨by decide +kernel, rfl⟩
theorem dX10_find_159 : DI cX10_find 159 (.iinc 2 1) 3 162 := ⟨by decide +kernel, rfl⟩
theorem dX10_find_162 : DB cX10_find 162 (.goto (-150)) (-150) 3 165 12 := ⟨by decide +kernel, rfl, by decide⟩
theorem dX10_find_165 : DI cX10_find 165 (.aload_n 0) 1 166 := ⟨by decide +kernel, rfl⟩
theorem dX10_find_166 : DI cX10_find 166 (.aload_n 0) 1 167 := ⟨by decide +kernel, rfl⟩
theorem dX10_find_167 : DI cX10_find 167 (.aload_n 0) 1 168 := ⟨by decide +kernel, rfl⟩
theorem dX10_find_168 : DI cX10_find 168 (.iload_n 1) 1 169 := ⟨by decide +kernel, rfl⟩
theorem dX10_find_169 : DB cX10_find 169 (.ifCond .le 7) (7) 3 172 176 := ⟨by decide +kernel, rfl, by decide⟩
theorem dX10_find_172 : DI cX10_find 172 (.iload_n 1) 1 173 := ⟨by decide +kernel, rfl⟩
theorem dX10_find_173 : DB cX10_find 173 (.goto 4) (4) 3 176 177 := ⟨by decide +kernel, rfl, by decide⟩
theorem dX10_find_176 : DI cX10_find 176 (.iconst 0) 1 177 := ⟨by decide +kernel, rfl⟩
theorem dX10_find_177 : DI cX10_find 177 (.iconst 1) 1 178 := ⟨by decide +kernel, rfl⟩
theorem dX10_find_178 : DI cX10_find 178 (.invokevirtual 241) 3 181 := ⟨by decide +kernel, rfl⟩
theorem dX10_find_181 : DI cX10_find 181 (.iconst 0) 1 182 := ⟨by decide +kernel, rfl⟩
theorem dX10_find_182 : DI cX10_find 182 (.invokevirtual 241) 3 185 := ⟨by decide +kernel, rfl⟩
theorem dX10_find_185 : DI cX10_find 185 (.invokevirtual 245) 3 188 := ⟨by decide +kernel, rfl⟩
theorem dX10_find_188 : DI cX10_find 188 (.iconst 0) 1 189 := ⟨by decide +kernel, rfl⟩
theorem dX10_find_189 : DI cX10_find 189 (.istore_n 2) 1 190 := ⟨by decide +kernel, rfl⟩
theorem dX10_find_190 : DI cX10_find 190 (.iconst 0) 1 191 := ⟨by decide +kernel, rfl⟩
theorem dX10_find_191 : DI cX10_find 191 (.istore_n 3) 1 192 := ⟨by decide +kernel, rfl⟩
theorem dX10_find_192 : DI cX10_find 192 (.iload_n 3) 1 193 := ⟨by decide +kernel, rfl⟩
theorem dX10_find_193 : DI cX10_find 193 (.aload_n 0) 1 194 := ⟨by decide +kernel, rfl⟩
theorem dX10_find_194 : DI cX10_find 194 (.getfield 151) 3 197 := ⟨by decide +kernel, rfl⟩
theorem dX10_find_197 : DB cX10_find 197 (.if_icmp .ge 18) (18) 3 200 215 := ⟨by decide +kernel, rfl, by decide⟩
theorem dX10_find_200 : DI cX10_find 200 (.iload_n 2) 1 201 := ⟨by decide +kernel, rfl⟩
theorem dX10_find_201 : DI cX10_find 201 (.aload_n 0) 1 202 := ⟨by decide +kernel, rfl⟩
theorem dX10_find_202 : DI cX10_find 202 (.getfield 135) 3 205 := ⟨by decide +kernel, rfl⟩
theorem dX10_find_205 : DI cX10_find 205 (.iload_n 3) 1 206 := ⟨by decide +kernel, rfl⟩
theorem dX10_find_206 : DI cX10_find 206 (.iaload) 1 207 := ⟨by decide +kernel, rfl⟩
theorem dX10_find_207 : DI cX10_find 207 (.iadd) 1 208 := ⟨by decide +kernel, rfl⟩
theorem dX10_find_208 : DI cX10_find 208 (.istore_n 2) 1 209 := ⟨by decide +kernel, rfl⟩
theorem dX10_find_209 : DI cX10_find 209 (.iinc 3 1) 3 212 := ⟨by decide +kernel, rfl⟩
theorem dX10_find_212 : DB cX10_find 212 (.goto (-20)) (-20) 3 215 192 := ⟨by decide +kernel, rfl, by decide⟩
theorem dX10_find_215 : DI cX10_find 215 (.iload_n 2) 1 216 := ⟨by decide +kernel, rfl⟩
theorem dX10_find_216 : DI cX10_find 216 (.ireturn) 1 217 := ⟨by decide +kernel, rfl⟩
theorem dX10_passOne_0 : DI cX10_passOne 0 (.aload_n 0) 1 1 := ⟨by decide +kernel, rfl⟩
theorem dX10_passOne_1 : DI cX10_passOne 1 (.dup) 1 2 := ⟨by decide +kernel, rfl⟩
theorem dX10_passOne_2 : DI cX10_passOne 2 (.getfield 248) 3 5 := ⟨by decide +kernel, rfl⟩
theorem dX10_passOne_5 : DI cX10_passOne 5 (.aload_n 0) 1 6 := ⟨by decide +kernel, rfl⟩
theorem dX10_passOne_6 : DI cX10_passOne 6 (.invokevirtual 251) 3 9 := ⟨by decide +kernel, rfl⟩
theorem dX10_passOne_9 : DI cX10_passOne 9 (.aload_n 0) 1 10 := ⟨by decide +kernel, rfl⟩
theorem dX10_passOne_10 : DI cX10_passOne 10 (.getfield 7) 3 13 := ⟨by decide +kernel, rfl⟩
theorem dX10_passOne_13 : DI cX10_passOne 13 (.aload_n 0) 1 14 := ⟨by decide +kernel, rfl⟩
theorem dX10_passOne_14 : DI cX10_passOne 14 (.getfield 175) 3 17 := ⟨by decide +kernel, rfl⟩
theorem dX10_passOne_17 : DI cX10_passOne 17 (.iadd) 1 18 := ⟨by decide +kernel, rfl⟩
theorem dX10_passOne_18 : DB cX10_passOne 18 (.if_icmp .le 7) (7) 3 21 25 := ⟨by decide +kernel, rfl, by decide⟩
theorem dX10_passOne_21 : DI cX10_passOne 21 (.iconst 1) 1 22 := ⟨by decide +kernel, rfl⟩
theorem dX10_passOne_22 : DB cX10_passOne 22 (.goto 4) (4) 3 25 26 := ⟨by decide +kernel, rfl, by decide⟩
theorem dX10_passOne_25 : DI cX10_passOne 25 (.iconst 0) 1 26 := ⟨by decide +kernel, rfl⟩
theorem dX10_passOne_26 : DI cX10_passOne 26 (.iadd) 1 27 := ⟨by decide +kernel, rfl⟩
theorem dX10_passOne_27 : DI cX10_passOne 27 (.putfield 248) 3 30 := ⟨by decide +kernel, rfl⟩
theorem dX10_passOne_30 : DI cX10_passOne 30 (.aload_n 0) 1 31 := ⟨by decide +kernel, rfl⟩
theorem dX10_passOne_31 : DI cX10_passOne 31 (.getfield 188) 3 34 := ⟨by decide +kernel, rfl⟩
theorem dX10_passOne_34 : DI cX10_passOne 34 (.sipush 1440) 3 37 := ⟨by decide +kernel, rfl⟩
theorem dX10_passOne_37 : DI cX10_passOne 37 (.irem) 1 38 := ⟨by decide +kernel, rfl⟩
theorem dX10_passOne_38 : DI cX10_passOne 38 (.sipush 360) 3 41 := ⟨by decide +kernel, rfl⟩
theorem dX10_passOne_41 : DI cX10_passOne 41 (.sipush 1319) 3 44 := ⟨by decide +kernel, rfl⟩
theorem dX10_passOne_44 : DI cX10_passOne 44 (.invokestatic 141) 3 47 := ⟨by decide +kernel, rfl⟩
theorem dX10_passOne_47 : DI cX10_passOne 47 (.istore_n 1) 1 48 := ⟨by decide +kernel, rfl⟩
theorem dX10_passOne_48 : DI cX10_passOne 48 (.iconst 0) 1 49 := ⟨by decide +kernel, rfl⟩
theorem dX10_passOne_49 : DI cX10_passOne 49 (.istore_n 2) 1 50 := ⟨by decide +kernel, rfl⟩
theorem dX10_passOne_50 : DI cX10_passOne 50 (.iload_n 2) 1 51 := ⟨by decide +kernel, rfl⟩
theorem dX10_passOne_51 : DI cX10_passOne 51 (.aload_n 0) 1 52 := ⟨by decide +kernel, rfl⟩
theorem dX10_passOne_52 : DI cX10_passOne 52 (.getfield 151) 3 55 := ⟨by decide +kernel, rfl⟩
theorem dX10_passOne_55 : DB cX10_passOne 55 (.if_icmp .ge 182) (182) 3 58 237 := ⟨by decide +kernel, rfl, by decide⟩
theorem dX10_passOne_58 : DI cX10_passOne 58 (.aload_n 0) 1 59 := ⟨by decide +kernel, rfl⟩
theorem dX10_passOne_59 : DI cX10_passOne 59 (.getfield 90) 3 62 := ⟨by decide +kernel, rfl⟩
theorem dX10_passOne_62 : DI cX10_passOne 62 (.iload_n 2) 1 63 := ⟨by decide +kernel, rfl⟩
theorem dX10_passOne_63 : DI cX10_passOne 63 (.iaload) 1 64 := ⟨by decide +kernel, rfl⟩
theorem dX10_passOne_64 : DI cX10_passOne 64 (.iconst 1) 1 65 := ⟨by decide +kernel, rfl⟩
theorem dX10_passOne_65 : DB cX10_passOne 65 (.if_icmp .ne 166) (166) 3 68 231 := ⟨by decide +kernel, rfl, by decide⟩
theorem dX10_passOne_68 : DI cX10_passOne 68 (.aload_n 0) 1 69 := ⟨by decide +kernel, rfl⟩
theorem dX10_passOne_69 : DI cX10_passOne 69 (.getfield 84) 3 72 := ⟨by decide +kernel, rfl⟩
theorem dX10_passOne_72 : DI cX10_passOne 72 (.iload_n 2) 1 73 := ⟨by decide +kernel, rfl⟩
theorem dX10_passOne_73 : DI cX10_passOne 73 (.iaload) 1 74 := ⟨by decide +kernel, rfl⟩
theorem dX10_passOne_74 : DI cX10_passOne 74 (.istore_n 3) 1 75 := ⟨by decide +kernel, rfl⟩
theorem dX10_passOne_75 : DI cX10_passOne 75 (.aload_n 0) 1 76 := ⟨by decide +kernel, rfl⟩
theorem dX10_passOne_76 : DI cX10_passOne 76 (.getfield 111) 3 79 := ⟨by decide +kernel, rfl⟩
theorem dX10_passOne_79 : DI cX10_passOne 79 (.iload_n 2) 1 80 := ⟨by decide +kernel, rfl⟩
theorem dX10_passOne_80 : DI cX10_passOne 80 (.dup2) 1 81 := ⟨by decide +kernel, rfl⟩
theorem dX10_passOne_81 : DI cX10_passOne 81 (.iaload) 1 82 := ⟨by decide +kernel, rfl⟩
theorem dX10_passOne_82 : DI cX10_passOne 82 (.aload_n 0) 1 83 := ⟨by decide +kernel, rfl⟩
theorem dX10_passOne_83 : DI cX10_passOne 83 (.getfield 135) 3 86 := ⟨by decide +kernel, rfl⟩
theorem dX10_passOne_86 : DI cX10_passOne 86 (.iload_n 2) 1 87 := ⟨by decide +kernel, rfl⟩
theorem dX10_passOne_87 : DI cX10_passOne 87 (.iaload) 1 88 := ⟨by decide +kernel, rfl⟩
theorem dX10_passOne_88 : DB cX10_passOne 88 (.ifCond .ne 22) (22) 3 91 110 := ⟨by decide +kernel, rfl, by decide⟩
theorem dX10_passOne_91 : DI cX10_passOne 91 (.aload_n 0) 1 92 := ⟨by decide +kernel, rfl⟩
theorem dX10_passOne_92 : DI cX10_passOne 92 (.getfield 39) 3 95 := ⟨by decide +kernel, rfl⟩
theorem dX10_passOne_95 : DI cX10_passOne 95 (.iload_n 3) 1 96 := ⟨by decide +kernel, rfl⟩
theorem dX10_passOne_96 : DI cX10_passOne 96 (.iaload) 1 97 := ⟨by decide +kernel, rfl⟩
theorem dX10_passOne_97 : DI cX10_passOne 97 (.aload_n 0) 1 98 := ⟨by decide +kernel, rfl⟩
theorem dX10_passOne_98 : DI cX10_passOne 98 (.getfield 36) 3 101 := ⟨by decide +kernel, rfl⟩
theorem dX10_passOne_101 : DI cX10_passOne 101 (.iload_n 3) 1 102 := ⟨by decide +kernel, rfl⟩
theorem dX10_passOne_102 : DI cX10_passOne 102 (.iaload) 1 103 := ⟨by decide +kernel, rfl⟩
theorem dX10_passOne_103 : DB cX10_passOne 103 (.if_icmp .ne 7) (7) 3 106 110 := ⟨by decide +kernel, rfl, by decide⟩
theorem dX10_passOne_106 : DI cX10_passOne 106 (.iconst 1) 1 107 := ⟨by decide +kernel, rfl⟩
theorem dX10_passOne_107 : DB cX10_passOne 107 (.goto 4) (4) 3 110 111 := ⟨by decide +kernel, rfl, by decide⟩
theorem dX10_passOne_110 : DI cX10_passOne 110 (.iconst 0) 1 111 := ⟨by decide +kernel, rfl⟩
theorem dX10_passOne_111 : DI cX10_passOne 111 (.iadd) 1 112 := ⟨by decide +kernel, rfl⟩
theorem dX10_passOne_112 : DI cX10_passOne 112 (.iastore) 1 113 := ⟨by decide +kernel, rfl⟩
theorem dX10_passOne_113 : DI cX10_passOne 113 (.aload_n 0) 1 114 := ⟨by decide +kernel, rfl⟩
theorem dX10_passOne_114 : DI cX10_passOne 114 (.getfield 39) 3 117 := ⟨by decide +kernel, rfl⟩
theorem dX10_passOne_117 : DI cX10_passOne 117 (.iload_n 3) 1 118 := ⟨by decide +kernel, rfl⟩
theorem dX10_passOne_118 : DI cX10_passOne 118 (.dup2) 1 119 := ⟨by decide +kernel, rfl⟩
theorem dX10_passOne_119 : DI cX10_passOne 119 (.iaload) 1 120 := ⟨by decide +kernel, rfl⟩
theorem dX10_passOne_120 : DI cX10_passOne 120 (.aload_n 0) 1 121 := ⟨by decide +kernel, rfl⟩
theorem dX10_passOne_121 : DI cX10_passOne 121 (.getfield 135) 3 124 := ⟨by decide +kernel, rfl⟩
theorem dX10_passOne_124 : DI cX10_passOne 124 (.iload_n 2) 1 125 := ⟨by decide +kernel, rfl⟩
theorem dX10_passOne_125 : DI cX10_passOne 125 (.iaload) 1 126 := ⟨by decide +kernel, rfl⟩
theorem dX10_passOne_126 : DI cX10_passOne 126 (.iadd) 1 127 := ⟨by decide +kernel, rfl⟩
theorem dX10_passOne_127 : DI cX10_passOne 127 (.iastore) 1 128 := ⟨by decide +kernel, rfl⟩
theorem dX10_passOne_128 : DI cX10_passOne 128 (.aload_n 0) 1 129 := ⟨by decide +kernel, rfl⟩
theorem dX10_passOne_129 : DI cX10_passOne 129 (.getfield 93) 3 132 := ⟨by decide +kernel, rfl⟩
theorem dX10_passOne_132 : DI cX10_passOne 132 (.iload_n 2) 1 133 := ⟨by decide +kernel, rfl⟩
theorem dX10_passOne_133 : DI cX10_passOne 133 (.dup2) 1 134 := ⟨by decide +kernel, rfl⟩
theorem dX10_passOne_134 : DI cX10_passOne 134 (.iaload) 1 135 := ⟨by decide +kernel, rfl⟩
theorem dX10_passOne_135 : DI cX10_passOne 135 (.aload_n 0) 1 136 := ⟨by decide +kernel, rfl⟩
theorem dX10_passOne_136 : DI cX10_passOne 136 (.getfield 135) 3 139 := ⟨by decide +kernel, rfl⟩
theorem dX10_passOne_139 : DI cX10_passOne 139 (.iload_n 2) 1 140 := ⟨by decide +kernel, rfl⟩
theorem dX10_passOne_140 : DI cX10_passOne 140 (.iaload) 1 141 := ⟨by decide +kernel, rfl⟩
theorem dX10_passOne_141 : DI cX10_passOne 141 (.iadd) 1 142 := ⟨by decide +kernel, rfl⟩
theorem dX10_passOne_142 : DI cX10_passOne 142 (.iastore) 1 143 := ⟨by decide +kernel, rfl⟩
theorem dX10_passOne_143 : DI cX10_passOne 143 (.aload_n 0) 1 144 := ⟨by decide +kernel, rfl⟩
theorem dX10_passOne_144 : DI cX10_passOne 144 (.getfield 96) 3 147 := ⟨by decide +kernel, rfl⟩
theorem dX10_passOne_147 : DI cX10_passOne 147 (.iload_n 2) 1 148 := ⟨by decide +kernel, rfl⟩
theorem dX10_passOne_148 : DI cX10_passOne 148 (.aload_n 0) 1 149 := ⟨by decide +kernel, rfl⟩
theorem dX10_passOne_149 : DI cX10_passOne 149 (.getfield 135) 3 152 := ⟨by decide +kernel, rfl⟩
theorem dX10_passOne_152 : DI cX10_passOne 152 (.iload_n 2) 1 153 := ⟨by decide +kernel, rfl⟩
theorem dX10_passOne_153 : DI cX10_passOne 153 (.iaload) 1 154 := ⟨by decide +kernel, rfl⟩
theorem dX10_passOne_154 : DI cX10_passOne 154 (.iastore) 1 155 := ⟨by decide +kernel, rfl⟩
theorem dX10_passOne_155 : DI cX10_passOne 155 (.aload_n 0) 1 156 := ⟨by decide +kernel, rfl⟩
theorem dX10_passOne_156 : DI cX10_passOne 156 (.getfield 105) 3 159 := ⟨by decide +kernel, rfl⟩
theorem dX10_passOne_159 : DI cX10_passOne 159 (.iload_n 2) 1 160 := ⟨by decide +kernel, rfl⟩
theorem dX10_passOne_160 : DI cX10_passOne 160 (.dup2) 1 161 := ⟨by decide +kernel, rfl⟩
theorem dX10_passOne_161 : DI cX10_passOne 161 (.iaload) 1 162 := ⟨by decide +kernel, rfl⟩
theorem dX10_passOne_162 : DI cX10_passOne 162 (.iload_n 1) 1 163 := ⟨by decide +kernel, rfl⟩
theorem dX10_passOne_163 : DB cX10_passOne 163 (.ifCond .eq 12) (12) 3 166 175 := ⟨by decide +kernel, rfl, by decide⟩
theorem dX10_passOne_166 : DI cX10_passOne 166 (.aload_n 0) 1 167 := ⟨by decide +kernel, rfl⟩
theorem dX10_passOne_167 : DI cX10_passOne 167 (.getfield 135) 3 170 := ⟨by decide +kernel, rfl⟩
theorem dX10_passOne_170 : DI cX10_passOne 170 (.iload_n 2) 1 171 := ⟨by decide +kernel, rfl⟩
theorem dX10_passOne_171 : DI cX10_passOne 171 (.iaload) 1 172 := ⟨by decide +kernel, rfl⟩
theorem dX10_passOne_172 : DB cX10_passOne 172 (.goto 4) (4) 3 175 176 := ⟨by decide +kernel, rfl, by decide⟩
theorem dX10_passOne_175 : DI cX10_passOne 175 (.iconst 0) 1 176 := ⟨by decide +kernel, rfl⟩
theorem dX10_passOne_176 : DI cX10_passOne 176 (.iadd) 1 177 := ⟨by decide +kernel, rfl⟩
theorem dX10_passOne_177 : DI cX10_passOne 177 (.iastore) 1 178 := ⟨by decide +kernel, rfl⟩
theorem dX10_passOne_178 : DI cX10_passOne 178 (.aload_n 0) 1 179 := ⟨by decide +kernel, rfl⟩
theorem dX10_passOne_179 : DI cX10_passOne 179 (.getfield 108) 3 182 := ⟨by decide +kernel, rfl⟩
theorem dX10_passOne_182 : DI cX10_passOne 182 (.iload_n 2) 1 183 := ⟨by decide +kernel, rfl⟩
theorem dX10_passOne_183 : DI cX10_passOne 183 (.dup2) 1 184 := ⟨by decide +kernel, rfl⟩
theorem dX10_passOne_184 : DI cX10_passOne 184 (.iaload) 1 185 := ⟨by decide +kernel, rfl⟩
theorem dX10_passOne_185 : DI cX10_passOne 185 (.iload_n 1) 1 186 := ⟨by decide +kernel, rfl⟩
theorem dX10_passOne_186 : DB cX10_passOne 186 (.ifCond .eq 7) (7) 3 189 193 := ⟨by decide +kernel, rfl, by decide⟩
theorem dX10_passOne_189 : DI cX10_passOne 189 (.iconst 0) 1 190 := ⟨by decide +kernel, rfl⟩
theorem dX10_passOne_190 : DB cX10_passOne 190 (.goto 9) (9) 3 193 199 := ⟨by decide +kernel, rfl, by decide⟩
theorem dX10_passOne_193 : DI cX10_passOne 193 (.aload_n 0) 1 194 := ⟨by decide +kernel, rfl⟩
theorem dX10_passOne_194 : DI cX10_passOne 194 (.getfield 135) 3 197 := ⟨by decide +kernel, rfl⟩
theorem dX10_passOne_197 : DI cX10_passOne 197 (.iload_n 2) 1 198 := ⟨by decide +kernel, rfl⟩
theorem dX10_passOne_198 : DI cX10_passOne 198 (.iaload) 1 199 := ⟨by decide +kernel, rfl⟩
theorem dX10_passOne_199 : DI cX10_passOne 199 (.iadd) 1 200 := ⟨by decide +kernel, rfl⟩
theorem dX10_passOne_200 : DI cX10_passOne 200 (.iastore) 1 201 := ⟨by decide +kernel, rfl⟩
theorem dX10_passOne_201 : DI cX10_passOne 201 (.aload_n 0) 1 202 := ⟨by decide +kernel, rfl⟩
theorem dX10_passOne_202 : DI cX10_passOne 202 (.getfield 99) 3 205 := ⟨by decide +kernel, rfl⟩
theorem dX10_passOne_205 : DI cX10_passOne 205 (.iload_n 2) 1 206 := ⟨by decide +kernel, rfl⟩
theorem dX10_passOne_206 : DI cX10_passOne 206 (.dup2) 1 207 := ⟨by decide +kernel, rfl⟩
theorem dX10_passOne_207 : DI cX10_passOne 207 (.iaload) 1 208 := ⟨by decide +kernel, rfl⟩
theorem dX10_passOne_208 : DI cX10_passOne 208 (.iconst 1) 1 209 := ⟨by decide +kernel, rfl⟩
theorem dX10_passOne_209 : DI cX10_passOne 209 (.iadd) 1 210 := ⟨by decide +kernel, rfl⟩
theorem dX10_passOne_210 : DI cX10_passOne 210 (.iastore) 1 211 := ⟨by decide +kernel, rfl⟩
theorem dX10_passOne_211 : DI cX10_passOne 211 (.aload_n 0) 1 212 := ⟨by decide +kernel, rfl⟩
theorem dX10_passOne_212 : DI cX10_passOne 212 (.getfield 27) 3 215 := ⟨by decide +kernel, rfl⟩
theorem dX10_passOne_215 : DI cX10_passOne 215 (.aload_n 0) 1 216 := ⟨by decide +kernel, rfl⟩
theorem dX10_passOne_216 : DI cX10_passOne 216 (.getfield 81) 3 219 := ⟨by decide +kernel, rfl⟩
theorem dX10_passOne_219 : DI cX10_passOne 219 (.iload_n 2) 1 220 := ⟨by decide +kernel, rfl⟩
theorem dX10_passOne_220 : DI cX10_passOne 220 (.iaload) 1 221 := ⟨by decide +kernel, rfl⟩
theorem dX10_passOne_221 : DI cX10_passOne 221 (.baload) 1 222 := ⟨by decide +kernel, rfl⟩
theorem dX10_passOne_222 : DB cX10_passOne 222 (.ifCond .ne 9) (9) 3 225 231 := ⟨by decide +kernel, rfl, by decide⟩
theorem dX10_passOne_225 : DI cX10_passOne 225 (.aload_n 0) 1 226 := ⟨by decide +kernel, rfl⟩
theorem dX10_passOne_226 : DI cX10_passOne 226 (.iload_n 2) 1 227 := ⟨by decide +kernel, rfl⟩
theorem dX10_passOne_227 : DI cX10_passOne 227 (.invokevirtual 185) 3 230 := ⟨by decide +kernel, rfl⟩
theorem dX10_passOne_230 : DI cX10_passOne 230 (.pop) 1 231 := ⟨by decide +kernel, rfl⟩
theorem dX10_passOne_231 : DI cX10_passOne 231 (.iinc 2 1) 3 234 := ⟨by decide +kernel, rfl⟩
theorem dX10_passOne_234 : DB cX10_passOne 234 (.goto (-184)) (-184) 3 237 50 := ⟨by decide +kernel, rfl, by decide⟩
theorem dX10_passOne_237 : DI cX10_passOne 237 (.aload_n 0) 1 238 := ⟨by decide +kernel, rfl⟩
theorem dX10_passOne_238 : DI cX10_passOne 238 (.dup) 1 239 := ⟨by decide +kernel, rfl⟩
theorem dX10_passOne_239 : DI cX10_passOne 239 (.getfield 188) 3 242 := ⟨by decide +kernel, rfl⟩
theorem dX10_passOne_242 : DI cX10_passOne 242 (.iconst 1) 1 243 := ⟨by decide +kernel, rfl⟩
theorem dX10_passOne_243 : DI cX10_passOne 243 (.iadd) 1 244 := ⟨by decide +kernel, rfl⟩
theorem dX10_passOne_244 : DI cX10_passOne 244 (.putfield 188) 3 247 := ⟨by decide +kernel, rfl⟩
theorem dX10_passOne_247 : DI cX10_passOne 247 (.aload_n 0) 1 248 := ⟨by decide +kernel, rfl⟩
theorem dX10_passOne_248 : DI cX10_passOne 248 (.invokevirtual 255) 3 251 := ⟨by decide +kernel, rfl⟩
theorem dX10_passOne_251 : DI cX10_passOne 251 (.iconst 0) 1 252 := ⟨by decide +kernel, rfl⟩
theorem dX10_passOne_252 : DI cX10_passOne 252 (.istore_n 2) 1 253 := ⟨by decide +kernel, rfl⟩
theorem dX10_passOne_253 : DI cX10_passOne 253 (.iload_n 2) 1 254 := ⟨by decide +kernel, rfl⟩
theorem dX10_passOne_254 : DI cX10_passOne 254 (.aload_n 0) 1 255 := ⟨by decide +kernel, rfl⟩
theorem dX10_passOne_255 : DI cX10_passOne 255 (.getfield 148) 3 258 := ⟨by decide +kernel, rfl⟩
theorem dX10_passOne_258 : DB cX10_passOne 258 (.if_icmp .ge 32) (32) 3 261 290 := ⟨by decide +kernel, rfl, by decide⟩
theorem dX10_passOne_261 : DI cX10_passOne 261 (.aload_n 0) 1 262 := ⟨by decide +kernel, rfl⟩
theorem dX10_passOne_262 : DI cX10_passOne 262 (.getfield 188) 3 265 := ⟨by decide +kernel, rfl⟩
theorem dX10_passOne_265 : DI cX10_passOne 265 (.sipush 1440) 3 268 := ⟨by decide +kernel, rfl⟩
theorem dX10_passOne_268 : DI cX10_passOne 268 (.irem) 1 269 := ⟨by decide +kernel, rfl⟩
theorem dX10_passOne_269 : DB cX10_passOne 269 (.ifCond .ne 21) (21) 3 272 290 := ⟨by decide +kernel, rfl, by decide⟩
theorem dX10_passOne_272 : DI cX10_passOne 272 (.aload_n 0) 1 273 := ⟨by decide +kernel, rfl⟩
theorem dX10_passOne_273 : DI cX10_passOne 273 (.getfield 54) 3 276 := ⟨by decide +kernel, rfl⟩
theorem dX10_passOne_276 : DI cX10_passOne 276 (.iload_n 2) 1 277 := ⟨by decide +kernel, rfl⟩
theorem dX10_passOne_277 : DI cX10_passOne 277 (.aload_n 0) 1 278 := ⟨by decide +kernel, rfl⟩
theorem dX10_passOne_278 : DI cX10_passOne 278 (.getfield 51) 3 281 := ⟨by decide +kernel, rfl⟩
theorem dX10_passOne_281 : DI cX10_passOne 281 (.iload_n 2) 1 282 := ⟨by decide +kernel, rfl⟩
theorem dX10_passOne_282 : DI cX10_passOne 282 (.baload) 1 283 := ⟨by decide +kernel, rfl⟩
theorem dX10_passOne_283 : DI cX10_passOne 283 (.bastore) 1 284 := ⟨by decide +kernel, rfl⟩
theorem dX10_passOne_284 : DI cX10_passOne 284 (.iinc 2 1) 3 287 := ⟨by decide +kernel, rfl⟩
theorem dX10_passOne_287 : DB cX10_passOne 287 (.goto (-34)) (-34) 3 290 253 := ⟨by decide +kernel, rfl, by decide⟩
theorem dX10_passOne_290 : DI cX10_passOne 290 (.return_) 1 291 := ⟨by decide +kernel, rfl⟩
theorem dX10_pass_0 : DI cX10_pass 0 (.aload_n 0) 1 1 := ⟨by decide +kernel, rfl⟩
theorem dX10_pass_1 : DI cX10_pass 1 (.iconst 0) 1 2 := ⟨by decide +kernel, rfl⟩
theorem dX10_pass_2 : DI cX10_pass 2 (.putfield 138) 3 5 := ⟨by decide +kernel, rfl⟩
theorem dX10_pass_5 : DI cX10_pass 5 (.iload_n 1) 1 6 := ⟨by decide +kernel, rfl⟩
theorem dX10_pass_6 : DI cX10_pass 6 (.iconst 1) 1 7 := ⟨by decide +kernel, rfl⟩
theorem dX10_pass_7 : DI cX10_pass 7 (.bipush 120) 2 9 := ⟨by decide +kernel, rfl⟩
theorem dX10_pass_9 : DI cX10_pass 9 (.invokestatic 141) 3 12 := ⟨by decide +kernel, rfl⟩
theorem dX10_pass_12 : DB cX10_pass 12 (.ifCond .ne 9) (9) 3 15 21 := ⟨by decide +kernel, rfl, by decide⟩
theorem dX10_pass_15 : DI cX10_pass 15 (.aload_n 0) 1 16 := ⟨by decide +kernel, rfl⟩
theorem dX10_pass_16 : DI cX10_pass 16 (.iconst 1) 1 17 := ⟨by decide +kernel, rfl⟩
theorem dX10_pass_17 : DI cX10_pass 17 (.invokevirtual 158) 3 20 := ⟨by decide +kernel, rfl⟩
theorem dX10_pass_20 : DI cX10_pass 20 (.ireturn) 1 21 := ⟨by decide +kernel, rfl⟩
theorem dX10_pass_21 : DI cX10_pass 21 (.aload_n 0) 1 22 := ⟨by decide +kernel, rfl⟩
theorem dX10_pass_22 : DI cX10_pass 22 (.getfield 188) 3 25 := ⟨by decide +kernel, rfl⟩
theorem dX10_pass_25 : DI cX10_pass 25 (.iload_n 1) 1 26 := ⟨by decide +kernel, rfl⟩
theorem dX10_pass_26 : DI cX10_pass 26 (.iadd) 1 27 := ⟨by decide +kernel, rfl⟩
theorem dX10_pass_27 : DI cX10_pass 27 (.sipush 20000) 3 30 := ⟨by decide +kernel, rfl⟩
theorem dX10_pass_30 : DB cX10_pass 30 (.if_icmp .le 9) (9) 3 33 39 := ⟨by decide +kernel, rfl, by decide⟩
theorem dX10_pass_33 : DI cX10_pass 33 (.aload_n 0) 1 34 := ⟨by decide +kernel, rfl⟩
theorem dX10_pass_34 : DI cX10_pass 34 (.iconst 2) 1 35 := ⟨by decide +kernel, rfl⟩
theorem dX10_pass_35 : DI cX10_pass 35 (.invokevirtual 158) 3 38 := ⟨by decide +kernel, rfl⟩
theorem dX10_pass_38 : DI cX10_pass 38 (.ireturn) 1 39 := ⟨by decide +kernel, rfl⟩
theorem dX10_pass_39 : DI cX10_pass 39 (.iconst 0) 1 40 := ⟨by decide +kernel, rfl⟩
theorem dX10_pass_40 : DI cX10_pass 40 (.istore_n 2) 1 41 := ⟨by decide +kernel, rfl⟩
theorem dX10_pass_41 : DI cX10_pass 41 (.iload_n 2) 1 42 := ⟨by decide +kernel, rfl⟩
theorem dX10_pass_42 : DI cX10_pass 42 (.iload_n 1) 1 43 := ⟨by decide +kernel, rfl⟩
theorem dX10_pass_43 : DB cX10_pass 43 (.if_icmp .ge 13) (13) 3 46 56 := ⟨by decide +kernel, rfl, by decide⟩
theorem dX10_pass_46 : DI cX10_pass 46 (.aload_n 0) 1 47 := ⟨by decide +kernel, rfl⟩
theorem dX10_pass_47 : DI cX10_pass 47 (.invokevirtual 258) 3 50 := ⟨by decide +kernel, rfl⟩
theorem dX10_pass_50 : DI cX10_pass 50 (.iinc 2 1) 3 53 := ⟨by decide +kernel, rfl⟩
theorem dX10_pass_53 : DB cX10_pass 53 (.goto (-12)) (-12) 3 56 41 := ⟨by decide +kernel, rfl, by decide⟩
theorem dX10_pass_56 : DI cX10_pass 56 (.aload_n 0) 1 57 := ⟨by decide +kernel, rfl⟩
theorem dX10_pass_57 : DI cX10_pass 57 (.getfield 188) 3 60 := ⟨by decide +kernel, rfl⟩
theorem dX10_pass_60 : DI cX10_pass 60 (.ireturn) 1 61 := ⟨by decide +kernel, rfl⟩
theorem dX10_of_0 : DI cX10_of 0 (.aload_n 0) 1 1 := ⟨by decide +kernel, rfl⟩
theorem dX10_of_1 : DI cX10_of 1 (.iconst 0) 1 2 := ⟨by decide +kernel, rfl⟩
theorem dX10_of_2 : DI cX10_of 2 (.putfield 138) 3 5 := ⟨by decide +kernel, rfl⟩
theorem dX10_of_5 : DI cX10_of 5 (.aload_n 0) 1 6 := ⟨by decide +kernel, rfl⟩
theorem dX10_of_6 : DI cX10_of 6 (.iload_n 1) 1 7 := ⟨by decide +kernel, rfl⟩
theorem dX10_of_7 : DI cX10_of 7 (.invokevirtual 214) 3 10 := ⟨by decide +kernel, rfl⟩
theorem dX10_of_10 : DB cX10_of 10 (.ifCond .ne 9) (9) 3 13 19 := ⟨by decide +kernel, rfl, by decide⟩
theorem dX10_of_13 : DI cX10_of 13 (.aload_n 0) 1 14 := ⟨by decide +kernel, rfl⟩
theorem dX10_of_14 : DI cX10_of 14 (.iconst 1) 1 15 := ⟨by decide +kernel, rfl⟩
theorem dX10_of_15 : DI cX10_of 15 (.invokevirtual 158) 3 18 := ⟨by decide +kernel, rfl⟩
theorem dX10_of_18 : DI cX10_of 18 (.ireturn) 1 19 := ⟨by decide +kernel, rfl⟩
theorem dX10_of_19 : DI cX10_of 19 (.iload_n 2) 1 20 := ⟨by decide +kernel, rfl⟩
theorem dX10_of_20 : DI cX10_of 20 (.iconst 0) 1 21 := ⟨by decide +kernel, rfl⟩
theorem dX10_of_21 : DI cX10_of 21 (.bipush 6) 2 23 := ⟨by decide +kernel, rfl⟩
theorem dX10_of_23 : DI cX10_of 23 (.invokestatic 141) 3 26 := ⟨by decide +kernel, rfl⟩
theorem dX10_of_26 : DB cX10_of 26 (.ifCond .ne 9) (9) 3 29 35 := ⟨by decide +kernel, rfl, by decide⟩
theorem dX10_of_29 : DI cX10_of 29 (.aload_n 0) 1 30 := ⟨by decide +kernel, rfl⟩
theorem dX10_of_30 : DI cX10_of 30 (.iconst 2) 1 31 := ⟨by decide +kernel, rfl⟩
theorem dX10_of_31 : DI cX10_of 31 (.invokevirtual 158) 3 34 := ⟨by decide +kernel, rfl⟩
theorem dX10_of_34 : DI cX10_of 34 (.ireturn) 1 35 := ⟨by decide +kernel, rfl⟩
theorem dX10_of_35 : DI cX10_of 35 (.iload_n 2) 1 36 := ⟨by decide +kernel, rfl⟩
theorem dX10_of_36 : DI cX10_of 36 (.tableswitch 82 0 5 #[40, 47, 54, 61, 68, 75]) 40 76 := ⟨by decide +kernel, rfl⟩
theorem dX10_of_76 : DI cX10_of 76 (.aload_n 0) 1 77 := ⟨by decide +kernel, rfl⟩
theorem dX10_of_77 : DI cX10_of 77 (.getfield 96) 3 80 := ⟨by decide +kernel, rfl⟩
theorem dX10_of_80 : DI cX10_of 80 (.iload_n 1) 1 81 := ⟨by decide +kernel, rfl⟩
theorem dX10_of_81 : DI cX10_of 81 (.iaload) 1 82 := ⟨by decide +kernel, rfl⟩
theorem dX10_of_82 : DI cX10_of 82 (.ireturn) 1 83 := ⟨by decide +kernel, rfl⟩
theorem dX10_of_83 : DI cX10_of 83 (.aload_n 0) 1 84 := ⟨by decide +kernel, rfl⟩
theorem dX10_of_84 : DI cX10_of 84 (.getfield 93) 3 87 := ⟨by decide +kernel, rfl⟩
theorem dX10_of_87 : DI cX10_of 87 (.iload_n 1) 1 88 := ⟨by decide +kernel, rfl⟩
theorem dX10_of_88 : DI cX10_of 88 (.iaload) 1 89 := ⟨by decide +kernel, rfl⟩
theorem dX10_of_89 : DI cX10_of 89 (.ireturn) 1 90 := ⟨by decide +kernel, rfl⟩
theorem dX10_of_90 : DI cX10_of 90 (.aload_n 0) 1 91 := ⟨by decide +kernel, rfl⟩
theorem dX10_of_91 : DI cX10_of 91 (.getfield 99) 3 94 := ⟨by decide +kernel, rfl⟩
theorem dX10_of_94 : DI cX10_of 94 (.iload_n 1) 1 95 := ⟨by decide +kernel, rfl⟩
theorem dX10_of_95 : DI cX10_of 95 (.iaload) 1 96 := ⟨by decide +kernel, rfl⟩
theorem dX10_of_96 : DI cX10_of 96 (.ireturn) 1 97 := ⟨by decide +kernel, rfl⟩
theorem dX10_of_97 : DI cX10_of 97 (.aload_n 0) 1 98 := ⟨by decide +kernel, rfl⟩
theorem dX10_of_98 : DI cX10_of 98 (.getfield 102) 3 101 := ⟨by decide +kernel, rfl⟩
theorem dX10_of_101 : DI cX10_of 101 (.iload_n 1) 1 102 := ⟨by decide +kernel, rfl⟩
theorem dX10_of_102 : DI cX10_of 102 (.iaload) 1 103 := ⟨by decide +kernel, rfl⟩
theorem dX10_of_103 : DI cX10_of 103 (.ireturn) 1 104 := ⟨by decide +kernel, rfl⟩
theorem dX10_of_104 : DI cX10_of 104 (.aload_n 0) 1 105 := ⟨by decide +kernel, rfl⟩
theorem dX10_of_105 : DI cX10_of 105 (.getfield 90) 3 108 := ⟨by decide +kernel, rfl⟩
theorem dX10_of_108 : DI cX10_of 108 (.iload_n 1) 1 109 := ⟨by decide +kernel, rfl⟩
theorem dX10_of_109 : DI cX10_of 109 (.iaload) 1 110 := ⟨by decide +kernel, rfl⟩
theorem dX10_of_110 : DI cX10_of 110 (.ireturn) 1 111 := ⟨by decide +kernel, rfl⟩
theorem dX10_of_111 : DI cX10_of 111 (.aload_n 0) 1 112 := ⟨by decide +kernel, rfl⟩
theorem dX10_of_112 : DI cX10_of 112 (.getfield 84) 3 115 := ⟨by decide +kernel, rfl⟩
theorem dX10_of_115 : DI cX10_of 115 (.iload_n 1) 1 116 := ⟨by decide +kernel, rfl⟩
theorem dX10_of_116 : DI cX10_of 116 (.iaload) 1 117 := ⟨by decide +kernel, rfl⟩
theorem dX10_of_117 : DI cX10_of 117 (.ireturn) 1 118 := ⟨by decide +kernel, rfl⟩
theorem dX10_of_118 : DI cX10_of 118 (.aload_n 0) 1 119 := ⟨by decide +kernel, rfl⟩
theorem dX10_of_119 : DI cX10_of 119 (.getfield 81) 3 122 := ⟨by decide +kernel, rfl⟩
theorem dX10_of_122 : DI cX10_of 122 (.iload_n 1) 1 123 := ⟨by decide +kernel, rfl⟩
theorem dX10_of_123 : DI cX10_of 123 (.iaload) 1 124 := ⟨by decide +kernel, rfl⟩
theorem dX10_of_124 : DI cX10_of 124 (.ireturn) 1 125 := ⟨by decide +kernel, rfl⟩
theorem dX10_charge_0 : DI cX10_charge 0 (.aload_n 0) 1 1 := ⟨by decide +kernel, rfl⟩
theorem dX10_charge_1 : DI cX10_charge 1 (.iconst 0) 1 2 := ⟨by decide +kernel, rfl⟩
theorem dX10_charge_2 : DI cX10_charge 2 (.putfield 138) 3 5 := ⟨by decide +kernel, rfl⟩
theorem dX10_charge_5 : DI cX10_charge 5 (.iload_n 1) 1 6 := ⟨by decide +kernel, rfl⟩
theorem dX10_charge_6 : DI cX10_charge 6 (.iconst 0) 1 7 := ⟨by decide +kernel, rfl⟩
theorem dX10_charge_7 : DI cX10_charge 7 (.aload_n 0) 1 8 := ⟨by decide +kernel, rfl⟩
theorem dX10_charge_8 : DI cX10_charge 8 (.getfield 164) 3 11 := ⟨by decide +kernel, rfl⟩
theorem dX10_charge_11 : DI cX10_charge 11 (.iconst 1) 1 12 := ⟨by decide +kernel, rfl⟩
theorem dX10_charge_12 : DI cX10_charge 12 (.isub) 1 13 := ⟨by decide +kernel, rfl⟩
theorem dX10_charge_13 : DI cX10_charge 13 (.invokestatic 141) 3 16 := ⟨by decide +kernel, rfl⟩
theorem dX10_charge_16 : DB cX10_charge 16 (.ifCond .eq 12) (12) 3 19 28 := ⟨by decide +kernel, rfl, by decide⟩
theorem dX10_charge_19 : DI cX10_charge 19 (.aload_n 0) 1 20 := ⟨by decide +kernel, rfl⟩
theorem dX10_charge_20 : DI cX10_charge 20 (.getfield 39) 3 23 := ⟨by decide +kernel, rfl⟩
theorem dX10_charge_23 : DI cX10_charge 23 (.iload_n 1) 1 24 := ⟨by decide +kernel, rfl⟩
theorem dX10_charge_24 : DI cX10_charge 24 (.iaload) 1 25 := ⟨by decide +kernel, rfl⟩
theorem dX10_charge_25 : DB cX10_charge 25 (.goto 8) (8) 3 28 33 := ⟨by decide +kernel, rfl, by decide⟩
theorem dX10_charge_28 : DI cX10_charge 28 (.aload_n 0) 1 29 := ⟨by decide +kernel, rfl⟩
theorem dX10_charge_29 : DI cX10_charge 29 (.iconst 1) 1 30 := ⟨by decide +kernel, rfl⟩
theorem dX10_charge_30 : DI cX10_charge 30 (.invokevirtual 158) 3 33 := ⟨by decide +kernel, rfl⟩
theorem dX10_charge_33 : DI cX10_charge 33 (.ireturn) 1 34 := ⟨by decide +kernel, rfl⟩
theorem dX10_power_0 : DI cX10_power 0 (.aload_n 0) 1 1 := ⟨by decide +kernel, rfl⟩
theorem dX10_power_1 : DI cX10_power 1 (.iconst 0) 1 2 := ⟨by decide +kernel, rfl⟩
theorem dX10_power_2 : DI cX10_power 2 (.putfield 138) 3 5 := ⟨by decide +kernel, rfl⟩
theorem dX10_power_5 : DI cX10_power 5 (.aload_n 0) 1 6 := ⟨by decide +kernel, rfl⟩
theorem dX10_power_6 : DI cX10_power 6 (.iload_n 1) 1 7 := ⟨by decide +kernel, rfl⟩
theorem dX10_power_7 : DI cX10_power 7 (.invokevirtual 214) 3 10 := ⟨by decide +kernel, rfl⟩
theorem dX10_power_10 : DB cX10_power 10 (.ifCond .ne 9) (9) 3 13 19 := ⟨by decide +kernel, rfl, by decide⟩
theorem dX10_power_13 : DI cX10_power 13 (.aload_n 0) 1 14 := ⟨by decide +kernel, rfl⟩
theorem dX10_power_14 : DI cX10_power 14 (.iconst 1) 1 15 := ⟨by decide +kernel, rfl⟩
theorem dX10_power_15 : DI cX10_power 15 (.invokevirtual 158) 3 18 := ⟨by decide +kernel, rfl⟩
theorem dX10_power_18 : DI cX10_power 18 (.ireturn) 1 19 := ⟨by decide +kernel, rfl⟩
theorem dX10_power_19 : DI cX10_power 19 (.aload_n 0) 1 20 := ⟨by decide +kernel, rfl⟩
theorem dX10_power_20 : DI cX10_power 20 (.invokevirtual 251) 3 23 := ⟨by decide +kernel, rfl⟩
theorem dX10_power_23 : DI cX10_power 23 (.pop) 1 24 := ⟨by decide +kernel, rfl⟩
theorem dX10_power_24 : DI cX10_power 24 (.aload_n 0) 1 25 := ⟨by decide +kernel, rfl⟩
theorem dX10_power_25 : DI cX10_power 25 (.getfield 135) 3 28 := ⟨by decide +kernel, rfl⟩
theorem dX10_power_28 : DI cX10_power 28 (.iload_n 1) 1 29 := ⟨by decide +kernel, rfl⟩
theorem dX10_power_29 : DI cX10_power 29 (.iaload) 1 30 := ⟨by decide +kernel, rfl⟩
theorem dX10_power_30 : DI cX10_power 30 (.ireturn) 1 31 := ⟨by decide +kernel, rfl⟩
theorem dX10_powerAnew_0 : DI cX10_powerAnew 0 (.aload_n 0) 1 1 := ⟨by decide +kernel, rfl⟩
theorem dX10_powerAnew_1 : DI cX10_powerAnew 1 (.iload_n 1) 1 2 := ⟨by decide +kernel, rfl⟩
theorem dX10_powerAnew_2 : DI cX10_powerAnew 2 (.invokevirtual 261) 3 5 := ⟨by decide +kernel, rfl⟩
theorem dX10_powerAnew_5 : DI cX10_powerAnew 5 (.ireturn) 1 6 := ⟨by decide +kernel, rfl⟩
theorem dX10_overloads_0 : DI cX10_overloads 0 (.aload_n 0) 1 1 := ⟨by decide +kernel, rfl⟩
theorem dX10_overloads_1 : DI cX10_overloads 1 (.iconst 0) 1 2 := ⟨by decide +kernel, rfl⟩
theorem dX10_overloads_2 : DI cX10_overloads 2 (.putfield 138) 3 5 := ⟨by decide +kernel, rfl⟩
theorem dX10_overloads_5 : DI cX10_overloads 5 (.aload_n 0) 1 6 := ⟨by decide +kernel, rfl⟩
theorem dX10_overloads_6 : DI cX10_overloads 6 (.getfield 248) 3 9 := ⟨by decide +kernel, rfl⟩
theorem dX10_overloads_9 : DI cX10_overloads 9 (.ireturn) 1 10 := ⟨by decide +kernel, rfl⟩
theorem dX10_bill_0 : DI cX10_bill 0 (.aload_n 0) 1 1 := ⟨by decide +kernel, rfl⟩
theorem dX10_bill_1 : DI cX10_bill 1 (.iconst 0) 1 2 := ⟨by decide +kernel, rfl⟩
theorem dX10_bill_2 : DI cX10_bill 2 (.putfield 138) 3 5 := ⟨by decide +kernel, rfl⟩
theorem dX10_bill_5 : DI cX10_bill 5 (.aload_n 0) 1 6 := ⟨by decide +kernel, rfl⟩
theorem dX10_bill_6 : DI cX10_bill 6 (.iload_n 1) 1 7 := ⟨by decide +kernel, rfl⟩
theorem dX10_bill_7 : DI cX10_bill 7 (.invokevirtual 214) 3 10 := ⟨by decide +kernel, rfl⟩
theorem dX10_bill_10 : DB cX10_bill 10 (.ifCond .eq 29) (29) 3 13 39 := ⟨by decide +kernel, rfl, by decide⟩
theorem dX10_bill_13 : DI cX10_bill 13 (.aload_n 0) 1 14 := ⟨by decide +kernel, rfl⟩
theorem dX10_bill_14 : DI cX10_bill 14 (.iload_n 1) 1 15 := ⟨by decide +kernel, rfl⟩
theorem dX10_bill_15 : DI cX10_bill 15 (.aload_n 0) 1 16 := ⟨by decide +kernel, rfl⟩
theorem dX10_bill_16 : DI cX10_bill 16 (.getfield 114) 3 19 := ⟨by decide +kernel, rfl⟩
theorem dX10_bill_19 : DI cX10_bill 19 (.iload_n 1) 1 20 := ⟨by decide +kernel, rfl⟩
theorem dX10_bill_20 : DI cX10_bill 20 (.iaload) 1 21 := ⟨by decide +kernel, rfl⟩
theorem dX10_bill_21 : DI cX10_bill 21 (.aload_n 0) 1 22 := ⟨by decide +kernel, rfl⟩
theorem dX10_bill_22 : DI cX10_bill 22 (.getfield 117) 3 25 := ⟨by decide +kernel, rfl⟩
theorem dX10_bill_25 : DI cX10_bill 25 (.iload_n 1) 1 26 := ⟨by decide +kernel, rfl⟩
theorem dX10_bill_26 : DI cX10_bill 26 (.iaload) 1 27 := ⟨by decide +kernel, rfl⟩
theorem dX10_bill_27 : DI cX10_bill 27 (.aload_n 0) 1 28 := ⟨by decide +kernel, rfl⟩
theorem dX10_bill_28 : DI cX10_bill 28 (.getfield 120) 3 31 := ⟨by decide +kernel, rfl⟩
theorem dX10_bill_31 : DI cX10_bill 31 (.iload_n 1) 1 32 := ⟨by decide +kernel, rfl⟩
theorem dX10_bill_32 : DI cX10_bill 32 (.iaload) 1 33 := ⟨by decide +kernel, rfl⟩
theorem dX10_bill_33 : DI cX10_bill 33 (.invokevirtual 203) 3 36 := ⟨by decide +kernel, rfl⟩
theorem dX10_bill_36 : DB cX10_bill 36 (.goto 8) (8) 3 39 44 := ⟨by decide +kernel, rfl, by decide⟩
theorem dX10_bill_39 : DI cX10_bill 39 (.aload_n 0) 1 40 := ⟨by decide +kernel, rfl⟩
theorem dX10_bill_40 : DI cX10_bill 40 (.iconst 1) 1 41 := ⟨by decide +kernel, rfl⟩
theorem dX10_bill_41 : DI cX10_bill 41 (.invokevirtual 158) 3 44 := ⟨by decide +kernel, rfl⟩
theorem dX10_bill_44 : DI cX10_bill 44 (.ireturn) 1 45 := ⟨by decide +kernel, rfl⟩
theorem dX10_billAnew_0 : DI cX10_billAnew 0 (.aload_n 0) 1 1 := ⟨by decide +kernel, rfl⟩
theorem dX10_billAnew_1 : DI cX10_billAnew 1 (.iconst 0) 1 2 := ⟨by decide +kernel, rfl⟩
theorem dX10_billAnew_2 : DI cX10_billAnew 2 (.putfield 138) 3 5 := ⟨by decide +kernel, rfl⟩
theorem dX10_billAnew_5 : DI cX10_billAnew 5 (.aload_n 0) 1 6 := ⟨by decide +kernel, rfl⟩
theorem dX10_billAnew_6 : DI cX10_billAnew 6 (.iload_n 1) 1 7 := ⟨by decide +kernel, rfl⟩
theorem dX10_billAnew_7 : DI cX10_billAnew 7 (.invokevirtual 214) 3 10 := ⟨by decide +kernel, rfl⟩
theorem dX10_billAnew_10 : DB cX10_billAnew 10 (.ifCond .eq 29) (29) 3 13 39 := ⟨by decide +kernel, rfl, by decide⟩
theorem dX10_billAnew_13 : DI cX10_billAnew 13 (.aload_n 0) 1 14 := ⟨by decide +kernel, rfl⟩
theorem dX10_billAnew_14 : DI cX10_billAnew 14 (.iload_n 1) 1 15 := ⟨by decide +kernel, rfl⟩
theorem dX10_billAnew_15 : DI cX10_billAnew 15 (.aload_n 0) 1 16 := ⟨by decide +kernel, rfl⟩
theorem dX10_billAnew_16 : DI cX10_billAnew 16 (.getfield 105) 3 19 := ⟨by decide +kernel, rfl⟩
theorem dX10_billAnew_19 : DI cX10_billAnew 19 (.iload_n 1) 1 20 := ⟨by decide +kernel, rfl⟩
theorem dX10_billAnew_20 : DI cX10_billAnew 20 (.iaload) 1 21 := ⟨by decide +kernel, rfl⟩
theorem dX10_billAnew_21 : DI cX10_billAnew 21 (.aload_n 0) 1 22 := ⟨by decide +kernel, rfl⟩
theorem dX10_billAnew_22 : DI cX10_billAnew 22 (.getfield 108) 3 25 := ⟨by decide +kernel, rfl⟩
theorem dX10_billAnew_25 : DI cX10_billAnew 25 (.iload_n 1) 1 26 := ⟨by decide +kernel, rfl⟩
theorem dX10_billAnew_26 : DI cX10_billAnew 26 (.iaload) 1 27 := ⟨by decide +kernel, rfl⟩
theorem dX10_billAnew_27 : DI cX10_billAnew 27 (.aload_n 0) 1 28 := ⟨by decide +kernel, rfl⟩
theorem dX10_billAnew_28 : DI cX10_billAnew 28 (.getfield 111) 3 31 := ⟨by decide +kernel, rfl⟩
theorem dX10_billAnew_31 : DI cX10_billAnew 31 (.iload_n 1) 1 32 := ⟨by decide +kernel, rfl⟩
theorem dX10_billAnew_32 : DI cX10_billAnew 32 (.iaload) 1 33 := ⟨by decide +kernel, rfl⟩
theorem dX10_billAnew_33 : DI cX10_billAnew 33 (.invokevirtual 203) 3 36 := ⟨by decide +kernel, rfl⟩
theorem dX10_billAnew_36 : DB cX10_billAnew 36 (.goto 8) (8) 3 39 44 := ⟨by decide +kernel, rfl, by decide⟩
theorem dX10_billAnew_39 : DI cX10_billAnew 39 (.aload_n 0) 1 40 := ⟨by decide +kernel, rfl⟩
theorem dX10_billAnew_40 : DI cX10_billAnew 40 (.iconst 1) 1 41 := ⟨by decide +kernel, rfl⟩
theorem dX10_billAnew_41 : DI cX10_billAnew 41 (.invokevirtual 158) 3 44 := ⟨by decide +kernel, rfl⟩
theorem dX10_billAnew_44 : DI cX10_billAnew 44 (.ireturn) 1 45 := ⟨by decide +kernel, rfl⟩
theorem dX10_dispute_0 : DI cX10_dispute 0 (.aload_n 0) 1 1 := ⟨by decide +kernel, rfl⟩
theorem dX10_dispute_1 : DI cX10_dispute 1 (.iconst 0) 1 2 := ⟨by decide +kernel, rfl⟩
theorem dX10_dispute_2 : DI cX10_dispute 2 (.putfield 138) 3 5 := ⟨by decide +kernel, rfl⟩
theorem dX10_dispute_5 : DI cX10_dispute 5 (.aload_n 0) 1 6 := ⟨by decide +kernel, rfl⟩
theorem dX10_dispute_6 : DI cX10_dispute 6 (.iload_n 1) 1 7 := ⟨by decide +kernel, rfl⟩
theorem dX10_dispute_7 : DI cX10_dispute 7 (.invokevirtual 214) 3 10 := ⟨by decide +kernel, rfl⟩
theorem dX10_dispute_10 : DB cX10_dispute 10 (.ifCond .ne 9) (9) 3 13 19 := ⟨by decide +kernel, rfl, by decide⟩
theorem dX10_dispute_13 : DI cX10_dispute 13 (.aload_n 0) 1 14 := ⟨by decide +kernel, rfl⟩
theorem dX10_dispute_14 : DI cX10_dispute 14 (.iconst 1) 1 15 := ⟨by decide +kernel, rfl⟩
theorem dX10_dispute_15 : DI cX10_dispute 15 (.invokevirtual 158) 3 18 := ⟨by decide +kernel, rfl⟩
theorem dX10_dispute_18 : DI cX10_dispute 18 (.ireturn) 1 19 := ⟨by decide +kernel, rfl⟩
theorem dX10_dispute_19 : DI cX10_dispute 19 (.iload_n 2) 1 20 := ⟨by decide +kernel, rfl⟩
theorem dX10_dispute_20 : DI cX10_dispute 20 (.iconst 1) 1 21 := ⟨by decide +kernel, rfl⟩
theorem dX10_dispute_21 : DI cX10_dispute 21 (.bipush 100) 2 23 := ⟨by decide +kernel, rfl⟩
theorem dX10_dispute_23 : DI cX10_dispute 23 (.invokestatic 141) 3 26 := ⟨by decide +kernel, rfl⟩
theorem dX10_dispute_26 : DB cX10_dispute 26 (.ifCond .ne 9) (9) 3 29 35 := ⟨by decide +kernel, rfl, by decide⟩
theorem dX10_dispute_29 : DI cX10_dispute 29 (.aload_n 0) 1 30 := ⟨by decide +kernel, rfl⟩
theorem dX10_dispute_30 : DI cX10_dispute 30 (.iconst 2) 1 31 := ⟨by decide +kernel, rfl⟩
theorem dX10_dispute_31 : DI cX10_dispute 31 (.invokevirtual 158) 3 34 := ⟨by decide +kernel, rfl⟩
theorem dX10_dispute_34 : DI cX10_dispute 34 (.ireturn) 1 35 := ⟨by decide +kernel, rfl⟩
theorem dX10_dispute_35 : DI cX10_dispute 35 (.aload_n 0) 1 36 := ⟨by decide +kernel, rfl⟩
theorem dX10_dispute_36 : DI cX10_dispute 36 (.getfield 90) 3 39 := ⟨by decide +kernel, rfl⟩
theorem dX10_dispute_39 : DI cX10_dispute 39 (.iload_n 1) 1 40 := ⟨by decide +kernel, rfl⟩
theorem dX10_dispute_40 : DI cX10_dispute 40 (.iaload) 1 41 := ⟨by decide +kernel, rfl⟩
theorem dX10_dispute_41 : DI cX10_dispute 41 (.iconst 3) 1 42 := ⟨by decide +kernel, rfl⟩
theorem dX10_dispute_42 : DB cX10_dispute 42 (.if_icmp .ne 12) (12) 3 45 54 := ⟨by decide +kernel, rfl, by decide⟩
theorem dX10_dispute_45 : DI cX10_dispute 45 (.aload_n 0) 1 46 := ⟨by decide +kernel, rfl⟩
theorem dX10_dispute_46 : DI cX10_dispute 46 (.getfield 129) 3 49 := ⟨by decide +kernel, rfl⟩
theorem dX10_dispute_49 : DI cX10_dispute 49 (.iload_n 1) 1 50 := ⟨by decide +kernel, rfl⟩
theorem dX10_dispute_50 : DI cX10_dispute 50 (.baload) 1 51 := ⟨by decide +kernel, rfl⟩
theorem dX10_dispute_51 : DB cX10_dispute 51 (.ifCond .eq 9) (9) 3 54 60 := ⟨by decide +kernel, rfl, by decide⟩
theorem dX10_dispute_54 : DI cX10_dispute 54 (.aload_n 0) 1 55 := ⟨by decide +kernel, rfl⟩
theorem dX10_dispute_55 : DI cX10_dispute 55 (.iconst 3) 1 56 := ⟨by decide +kernel, rfl⟩
theorem dX10_dispute_56 : DI cX10_dispute 56 (.invokevirtual 158) 3 59 := ⟨by decide +kernel, rfl⟩
theorem dX10_dispute_59 : DI cX10_dispute 59 (.ireturn) 1 60 := ⟨by decide +kernel, rfl⟩
theorem dX10_dispute_60 : DI cX10_dispute 60 (.aload_n 0) 1 61 := ⟨by decide +kernel, rfl⟩
theorem dX10_dispute_61 : DI cX10_dispute 61 (.getfield 129) 3 64 := ⟨by decide +kernel, rfl⟩
theorem dX10_dispute_64 : DI cX10_dispute 64 (.iload_n 1) 1 65 := ⟨by decide +kernel, rfl⟩
theorem dX10_dispute_65 : DI cX10_dispute 65 (.iconst 1) 1 66 := ⟨by decide +kernel, rfl⟩
theorem dX10_dispute_66 : DI cX10_dispute 66 (.bastore) 1 67 := ⟨by decide +kernel, rfl⟩
theorem dX10_dispute_67 : DI cX10_dispute 67 (.aload_n 0) 1 68 := ⟨by decide +kernel, rfl⟩
theorem dX10_dispute_68 : DI cX10_dispute 68 (.getfield 126) 3 71 := ⟨by decide +kernel, rfl⟩
theorem dX10_dispute_71 : DI cX10_dispute 71 (.iload_n 1) 1 72 := ⟨by decide +kernel, rfl⟩
theorem dX10_dispute_72 : DI cX10_dispute 72 (.iaload) 1 73 := ⟨by decide +kernel, rfl⟩
theorem dX10_dispute_73 : DI cX10_dispute 73 (.i2l) 1 74 := ⟨by decide +kernel, rfl⟩
theorem dX10_dispute_74 : DI cX10_dispute 74 (.iload_n 2) 1 75 := ⟨by decide +kernel, rfl⟩
theorem dX10_dispute_75 : DI cX10_dispute 75 (.i2l) 1 76 := ⟨by decide +kernel, rfl⟩
theorem dX10_dispute_76 : DI cX10_dispute 76 (.lmul) 1 77 := ⟨by decide +kernel, rfl⟩
theorem dX10_dispute_77 : DI cX10_dispute 77 (.ldc2_w 209) 3 80 := ⟨by decide +kernel, rfl⟩
theorem dX10_dispute_80 : DI cX10_dispute 80 (.ldiv) 1 81 := ⟨by decide +kernel, rfl⟩
theorem dX10_dispute_81 : DI cX10_dispute 81 (.l2i) 1 82 := ⟨by decide +kernel, rfl⟩
theorem dX10_dispute_82 : DI cX10_dispute 82 (.istore_n 3) 1 83 := ⟨by decide +kernel, rfl⟩
theorem dX10_dispute_83 : DI cX10_dispute 83 (.aload_n 0) 1 84 := ⟨by decide +kernel, rfl⟩
theorem dX10_dispute_84 : DI cX10_dispute 84 (.getfield 57) 3 87 := ⟨by decide +kernel, rfl⟩
theorem dX10_dispute_87 : DI cX10_dispute 87 (.aload_n 0) 1 88 := ⟨by decide +kernel, rfl⟩
theorem dX10_dispute_88 : DI cX10_dispute 88 (.getfield 87) 3 91 := ⟨by decide +kernel, rfl⟩
theorem dX10_dispute_91 : DI cX10_dispute 91 (.iload_n 1) 1 92 := ⟨by decide +kernel, rfl⟩
theorem dX10_dispute_92 : DI cX10_dispute 92 (.iaload) 1 93 := ⟨by decide +kernel, rfl⟩
theorem dX10_dispute_93 : DI cX10_dispute 93 (.dup2) 1 94 := ⟨by decide +kernel, rfl⟩
theorem dX10_dispute_94 : DI cX10_dispute 94 (.iaload) 1 95 := ⟨by decide +kernel, rfl⟩
theorem dX10_dispute_95 : DI cX10_dispute 95 (.iload_n 3) 1 96 := ⟨by decide +kernel, rfl⟩
theorem dX10_dispute_96 : DI cX10_dispute 96 (.isub) 1 97 := ⟨by decide +kernel, rfl⟩
theorem dX10_dispute_97 : DI cX10_dispute 97 (.iastore) 1 98 := ⟨by decide +kernel, rfl⟩
theorem dX10_dispute_98 : DI cX10_dispute 98 (.aload_n 0) 1 99 := ⟨by decide +kernel, rfl⟩
theorem dX10_dispute_99 : DI cX10_dispute 99 (.iload_n 1) 1 100 := ⟨by decide +kernel, rfl⟩
theorem dX10_dispute_100 : DI cX10_dispute 100 (.ldc2_w 207) 3 103 := ⟨by decide +kernel, rfl⟩
theorem dX10_dispute_103 : DI cX10_dispute 103 (.iload_n 3) 1 104 := ⟨by decide +kernel, rfl⟩
theorem dX10_dispute_104 : DI cX10_dispute 104 (.i2l) 1 105 := ⟨by decide +kernel, rfl⟩
theorem dX10_dispute_105 : DI cX10_dispute 105 (.lmul) 1 106 := ⟨by decide +kernel, rfl⟩
theorem dX10_dispute_106 : DI cX10_dispute 106 (.ldc2_w 209) 3 109 := ⟨by decide +kernel, rfl⟩
theorem dX10_dispute_109 : DI cX10_dispute 109 (.ldiv) 1 110 := ⟨by decide +kernel, rfl⟩
theorem dX10_dispute_110 : DI cX10_dispute 110 (.l2i) 1 111 := ⟨by decide +kernel, rfl⟩
theorem dX10_dispute_111 : DI cX10_dispute 111 (.ineg) 1 112 := ⟨by decide +kernel, rfl⟩
theorem dX10_dispute_112 : DI cX10_dispute 112 (.invokevirtual 211) 3 115 := ⟨by decide +kernel, rfl⟩
theorem dX10_dispute_115 : DI cX10_dispute 115 (.iload_n 3) 1 116 := ⟨by decide +kernel, rfl⟩
theorem dX10_dispute_116 : DI cX10_dispute 116 (.ireturn) 1 117 := ⟨by decide +kernel, rfl⟩
theorem dX10_owes_0 : DI cX10_owes 0 (.aload_n 0) 1 1 := ⟨by decide +kernel, rfl⟩
theorem dX10_owes_1 : DI cX10_owes 1 (.iconst 0) 1 2 := ⟨by decide +kernel, rfl⟩
theorem dX10_owes_2 : DI cX10_owes 2 (.putfield 138) 3 5 := ⟨by decide +kernel, rfl⟩
theorem dX10_owes_5 : DI cX10_owes 5 (.aload_n 0) 1 6 := ⟨by decide +kernel, rfl⟩
theorem dX10_owes_6 : DI cX10_owes 6 (.iload_n 1) 1 7 := ⟨by decide +kernel, rfl⟩
theorem dX10_owes_7 : DI cX10_owes 7 (.invokevirtual 167) 3 10 := ⟨by decide +kernel, rfl⟩
theorem dX10_owes_10 : DB cX10_owes 10 (.ifCond .eq 12) (12) 3 13 22 := ⟨by decide +kernel, rfl, by decide⟩
theorem dX10_owes_13 : DI cX10_owes 13 (.aload_n 0) 1 14 := ⟨by decide +kernel, rfl⟩
theorem dX10_owes_14 : DI cX10_owes 14 (.getfield 57) 3 17 := ⟨by decide +kernel, rfl⟩
theorem dX10_owes_17 : DI cX10_owes 17 (.iload_n 1) 1 18 := ⟨by decide +kernel, rfl⟩
theorem dX10_owes_18 : DI cX10_owes 18 (.iaload) 1 19 := ⟨by decide +kernel, rfl⟩
theorem dX10_owes_19 : DB cX10_owes 19 (.goto 8) (8) 3 22 27 := ⟨by decide +kernel, rfl, by decide⟩
theorem dX10_owes_22 : DI cX10_owes 22 (.aload_n 0) 1 23 := ⟨by decide +kernel, rfl⟩
theorem dX10_owes_23 : DI cX10_owes 23 (.iconst 1) 1 24 := ⟨by decide +kernel, rfl⟩
theorem dX10_owes_24 : DI cX10_owes 24 (.invokevirtual 158) 3 27 := ⟨by decide +kernel, rfl⟩
theorem dX10_owes_27 : DI cX10_owes 27 (.ireturn) 1 28 := ⟨by decide +kernel, rfl⟩
theorem dX10_account_0 : DI cX10_account 0 (.aload_n 0) 1 1 := ⟨by decide +kernel, rfl⟩
theorem dX10_account_1 : DI cX10_account 1 (.iconst 0) 1 2 := ⟨by decide +kernel, rfl⟩
theorem dX10_account_2 : DI cX10_account 2 (.putfield 138) 3 5 := ⟨by decide +kernel, rfl⟩
theorem dX10_account_5 : DI cX10_account 5 (.iload_n 1) 1 6 := ⟨by decide +kernel, rfl⟩
theorem dX10_account_6 : DI cX10_account 6 (.invokestatic 154) 3 9 := ⟨by decide +kernel, rfl⟩
theorem dX10_account_9 : DB cX10_account 9 (.ifCond .ne 9) (9) 3 12 18 := ⟨by decide +kernel, rfl, by decide⟩
theorem dX10_account_12 : DI cX10_account 12 (.aload_n 0) 1 13 := ⟨by decide +kernel, rfl⟩
theorem dX10_account_13 : DI cX10_account 13 (.iconst 1) 1 14 := ⟨by decide +kernel, rfl⟩
theorem dX10_account_14 : DI cX10_account 14 (.invokevirtual 158) 3 17 := ⟨by decide +kernel, rfl⟩
theorem dX10_account_17 : DI cX10_account 17 (.ireturn) 1 18 := ⟨by decide +kernel, rfl⟩
theorem dX10_account_18 : DI cX10_account 18 (.iconst 0) 1 19 := ⟨by decide +kernel, rfl⟩
theorem dX10_account_19 : DI cX10_account 19 (.istore_n 2) 1 20 := ⟨by decide +kernel, rfl⟩
theorem dX10_account_20 : DI cX10_account 20 (.iconst 0) 1 21 := ⟨by decide +kernel, rfl⟩
theorem dX10_account_21 : DI cX10_account 21 (.istore_n 3) 1 22 := ⟨by decide +kernel, rfl⟩
theorem dX10_account_22 : DI cX10_account 22 (.iload_n 3) 1 23 := ⟨by decide +kernel, rfl⟩
theorem dX10_account_23 : DI cX10_account 23 (.aload_n 0) 1 24 := ⟨by decide +kernel, rfl⟩
theorem dX10_account_24 : DI cX10_account 24 (.getfield 148) 3 27 := ⟨by decide +kernel, rfl⟩
theorem dX10_account_27 : DB cX10_account 27 (.if_icmp .ge 32) (32) 3 30 59 := ⟨by decide +kernel, rfl, by decide⟩
theorem dX10_account_30 : DI cX10_account 30 (.iload_n 2) 1 31 := ⟨by decide +kernel, rfl⟩
theorem dX10_account_31 : DI cX10_account 31 (.aload_n 0) 1 32 := ⟨by decide +kernel, rfl⟩
theorem dX10_account_32 : DI cX10_account 32 (.getfield 45) 3 35 := ⟨by decide +kernel, rfl⟩
theorem dX10_account_35 : DI cX10_account 35 (.iload_n 3) 1 36 := ⟨by decide +kernel, rfl⟩
theorem dX10_account_36 : DI cX10_account 36 (.iaload) 1 37 := ⟨by decide +kernel, rfl⟩
theorem dX10_account_37 : DI cX10_account 37 (.iload_n 1) 1 38 := ⟨by decide +kernel, rfl⟩
theorem dX10_account_38 : DB cX10_account 38 (.if_icmp .ne 12) (12) 3 41 50 := ⟨by decide +kernel, rfl, by decide⟩
theorem dX10_account_41 : DI cX10_account 41 (.aload_n 0) 1 42 := ⟨by decide +kernel, rfl⟩
theorem dX10_account_42 : DI cX10_account 42 (.getfield 57) 3 45 := ⟨by decide +kernel, rfl⟩
theorem dX10_account_45 : DI cX10_account 45 (.iload_n 3) 1 46 := ⟨by decide +kernel, rfl⟩
theorem dX10_account_46 : DI cX10_account 46 (.iaload) 1 47 := ⟨by decide +kernel, rfl⟩
theorem dX10_account_47 : DB cX10_account 47 (.goto 4) (4) 3 50 51 := ⟨by decide +kernel, rfl, by decide⟩
theorem dX10_account_50 : DI cX10_account 50 (.iconst 0) 1 51 := ⟨by decide +kernel, rfl⟩
theorem dX10_account_51 : DI cX10_account 51 (.iadd) 1 52 := ⟨by decide +kernel, rfl⟩
theorem dX10_account_52 : DI cX10_account 52 (.istore_n 2) 1 53 := ⟨by decide +kernel, rfl⟩
theorem dX10_account_53 : DI cX10_account 53 (.iinc 3 1) 3 56 := ⟨by decide +kernel, rfl⟩
theorem dX10_account_56 : DB cX10_account 56 (.goto (-34)) (-34) 3 59 22 := ⟨by decide +kernel, rfl, by decide⟩
theorem dX10_account_59 : DI cX10_account 59 (.iconst 0) 1 60 := ⟨by decide +kernel, rfl⟩
theorem dX10_account_60 : DI cX10_account 60 (.istore_n 3) 1 61 := ⟨by decide +kernel, rfl⟩
theorem dX10_account_61 : DI cX10_account 61 (.iload_n 3) 1 62 := ⟨by decide +kernel, rfl⟩
theorem dX10_account_62 : DI cX10_account 62 (.iconst 3) 1 63 := ⟨by decide +kernel, rfl⟩
theorem dX10_account_63 : DB cX10_account 63 (.if_icmp .ge 33) (33) 3 66 96 := ⟨by decide +kernel, rfl, by decide⟩
theorem dX10_account_66 : DI cX10_account 66 (.iload_n 2) 1 67 := ⟨by decide +kernel, rfl⟩
theorem dX10_account_67 : DI cX10_account 67 (.aload_n 0) 1 68 := ⟨by decide +kernel, rfl⟩
theorem dX10_account_68 : DI cX10_account 68 (.getfield 66) 3 71 := ⟨by decide +kernel, rfl⟩
theorem dX10_account_71 : DI cX10_account 71 (.iconst 3) 1 72 := ⟨by decide +kernel, rfl⟩
theorem dX10_account_72 : DI cX10_account 72 (.iload_n 3) 1 73 := ⟨by decide +kernel, rfl⟩
theorem dX10_account_73 : DI cX10_account 73 (.imul) 1 74 := ⟨by decide +kernel, rfl⟩
theorem dX10_account_74 : DI cX10_account 74 (.iload_n 1) 1 75 := ⟨by decide +kernel, rfl⟩
theorem dX10_account_75 : DI cX10_account 75 (.iadd) 1 76 := ⟨by decide +kernel, rfl⟩
theorem dX10_account_76 : DI cX10_account 76 (.iaload) 1 77 := ⟨by decide +kernel, rfl⟩
theorem dX10_account_77 : DI cX10_account 77 (.aload_n 0) 1 78 := ⟨by decide +kernel, rfl⟩
theorem dX10_account_78 : DI cX10_account 78 (.getfield 66) 3 81 := ⟨by decide +kernel, rfl⟩
theorem dX10_account_81 : DI cX10_account 81 (.iconst 3) 1 82 := ⟨by decide +kernel, rfl⟩
theorem dX10_account_82 : DI cX10_account 82 (.iload_n 1) 1 83 := ⟨by decide +kernel, rfl⟩
theorem dX10_account_83 : DI cX10_account 83 (.imul) 1 84 := ⟨by decide +kernel, rfl⟩
theorem dX10_account_84 : DI cX10_account 84 (.iload_n 3) 1 85 := ⟨by decide +kernel, rfl⟩
theorem dX10_account_85 : DI cX10_account 85 (.iadd) 1 86 := ⟨by decide +kernel, rfl⟩
theorem dX10_account_86 : DI cX10_account 86 (.iaload) 1 87 := ⟨by decide +kernel, rfl⟩
theorem dX10_account_87 : DI cX10_account 87 (.isub) 1 88 := ⟨by decide +kernel, rfl⟩
theorem dX10_account_88 : DI cX10_account 88 (.iadd) 1 89 := ⟨by decide +kernel, rfl⟩
theorem dX10_account_89 : DI cX10_account 89 (.istore_n 2) 1 90 := ⟨by decide +kernel, rfl⟩
theorem dX10_account_90 : DI cX10_account 90 (.iinc 3 1) 3 93 := ⟨by decide +kernel, rfl⟩
theorem dX10_account_93 : DB cX10_account 93 (.goto (-32)) (-32) 3 96 61 := ⟨by decide +kernel, rfl, by decide⟩
theorem dX10_account_96 : DI cX10_account 96 (.iload_n 2) 1 97 := ⟨by decide +kernel, rfl⟩
theorem dX10_account_97 : DI cX10_account 97 (.ireturn) 1 98 := ⟨by decide +kernel, rfl⟩
theorem dJ9_max_7cf53_0 : DI cJ9_max_7cf53 0 (.iload_n 0) 1 1 := ⟨by decide +kernel, rfl⟩
theorem dJ9_max_7cf53_1 : DI cJ9_max_7cf53 1 (.iload_n 1) 1 2 := ⟨by decide +kernel, rfl⟩
theorem dJ9_max_7cf53_2 : DB cJ9_max_7cf53 2 (.if_icmp .lt 7) (7) 3 5 9 := ⟨by decide +kernel, rfl, by decide⟩
theorem dJ9_max_7cf53_5 : DI cJ9_max_7cf53 5 (.iload_n 0) 1 6 := ⟨by decide +kernel, rfl⟩
theorem dJ9_max_7cf53_6 : DB cJ9_max_7cf53 6 (.goto 4) (4) 3 9 10 := ⟨by decide +kernel, rfl, by decide⟩
theorem dJ9_max_7cf53_9 : DI cJ9_max_7cf53 9 (.iload_n 1) 1 10 := ⟨by decide +kernel, rfl⟩
theorem dJ9_max_7cf53_10 : DI cJ9_max_7cf53 10 (.ireturn) 1 11 := ⟨by decide +kernel, rfl⟩
theorem dJ9_min_7cf53_0 : DI cJ9_min_7cf53 0 (.iload_n 0) 1 1 := ⟨by decide +kernel, rfl⟩
theorem dJ9_min_7cf53_1 : DI cJ9_min_7cf53 1 (.iload_n 1) 1 2 := ⟨by decide +kernel, rfl⟩
theorem dJ9_min_7cf53_2 : DB cJ9_min_7cf53 2 (.if_icmp .gt 7) (7) 3 5 9 := ⟨by decide +kernel, rfl, by decide⟩
theorem dJ9_min_7cf53_5 : DI cJ9_min_7cf53 5 (.iload_n 0) 1 6 := ⟨by decide +kernel, rfl⟩
theorem dJ9_min_7cf53_6 : DB cJ9_min_7cf53 6 (.goto 4) (4) 3 9 10 := ⟨by decide +kernel, rfl, by decide⟩
theorem dJ9_min_7cf53_9 : DI cJ9_min_7cf53 9 (.iload_n 1) 1 10 := ⟨by decide +kernel, rfl⟩
theorem dJ9_min_7cf53_10 : DI cJ9_min_7cf53 10 (.ireturn) 1 11 := ⟨by decide +kernel, rfl⟩
theorem dJxa1e45_init_da8c8_0 : DI cJxa1e45_init_da8c8 0 (.aload_n 0) 1 1 := ⟨by decide +kernel, rfl⟩
theorem dJxa1e45_init_da8c8_1 : DI cJxa1e45_init_da8c8 1 (.invokespecial 1) 3 4 := ⟨by decide +kernel, rfl⟩
theorem dJxa1e45_init_da8c8_4 : DI cJxa1e45_init_da8c8 4 (.return_) 1 5 := ⟨by decide +kernel, rfl⟩
theorem dJxc12de_init_da8c8_0 : DI cJxc12de_init_da8c8 0 (.aload_n 0) 1 1 := ⟨by decide +kernel, rfl⟩
theorem dJxc12de_init_da8c8_1 : DI cJxc12de_init_da8c8 1 (.invokespecial 1) 3 4 := ⟨by decide +kernel, rfl⟩
theorem dJxc12de_init_da8c8_4 : DI cJxc12de_init_da8c8 4 (.aload_n 0) 1 5 := ⟨by decide +kernel, rfl⟩
theorem dJxc12de_init_da8c8_5 : DI cJxc12de_init_da8c8 5 (.iconst 0) 1 6 := ⟨by decide +kernel, rfl⟩
theorem dJxc12de_init_da8c8_6 : DI cJxc12de_init_da8c8 6 (.putfield 7) 3 9 := ⟨by decide +kernel, rfl⟩
theorem dJxc12de_init_da8c8_9 : DI cJxc12de_init_da8c8 9 (.return_) 1 10 := ⟨by decide +kernel, rfl⟩
theorem dJx4a65c_init_da8c8_0 : DI cJx4a65c_init_da8c8 0 (.aload_n 0) 1 1 := ⟨by decide +kernel, rfl⟩
theorem dJx4a65c_init_da8c8_1 : DI cJx4a65c_init_da8c8 1 (.invokespecial 1) 3 4 := ⟨by decide +kernel, rfl⟩
theorem dJx4a65c_init_da8c8_4 : DI cJx4a65c_init_da8c8 4 (.aload_n 0) 1 5 := ⟨by decide +kernel, rfl⟩
theorem dJx4a65c_init_da8c8_5 : DI cJx4a65c_init_da8c8 5 (.getstatic 39) 3 8 := ⟨by decide +kernel, rfl⟩
theorem dJx4a65c_init_da8c8_8 : DI cJx4a65c_init_da8c8 8 (.putfield 9) 3 11 := ⟨by decide +kernel, rfl⟩
theorem dJx4a65c_init_da8c8_11 : DI cJx4a65c_init_da8c8 11 (.return_) 1 12 := ⟨by decide +kernel, rfl⟩
theorem dJx4a65c_grow_92f84_0 : DI cJx4a65c_grow_92f84 0 (.aload_n 0) 1 1 := ⟨by decide +kernel, rfl⟩
theorem dJx4a65c_grow_92f84_1 : DI cJx4a65c_grow_92f84 1 (.getfield 9) 3 4 := ⟨by decide +kernel, rfl⟩
theorem dJx4a65c_grow_92f84_4 : DI cJx4a65c_grow_92f84 4 (.arraylength) 1 5 := ⟨by decide +kernel, rfl⟩
theorem dJx4a65c_grow_92f84_5 : DI cJx4a65c_grow_92f84 5 (.istore_n 2) 1 6 := ⟨by decide +kernel, rfl⟩
theorem dJx4a65c_grow_92f84_6 : DI cJx4a65c_grow_92f84 6 (.iload_n 2) 1 7 := ⟨by decide +kernel, rfl⟩
theorem dJx4a65c_grow_92f84_7 : DB cJx4a65c_grow_92f84 7 (.ifCond .gt 13) (13) 3 10 20 := ⟨by decide +kernel, rfl, by decide⟩
theorem dJx4a65c_grow_92f84_10 : DI cJx4a65c_grow_92f84 10 (.aload_n 0) 1 11 := ⟨by decide +kernel, rfl⟩
theorem dJx4a65c_grow_92f84_11 : DI cJx4a65c_grow_92f84 11 (.getfield 9) 3 14 := ⟨by decide +kernel, rfl⟩
theorem dJx4a65c_grow_92f84_14 : DI cJx4a65c_grow_92f84 14 (.getstatic 39) 3 17 := ⟨by decide +kernel, rfl⟩
theorem dJx4a65c_grow_92f84_17 : DB cJx4a65c_grow_92f84 17 (.if_acmp .eq 28) (28) 3 20 45 := ⟨by decide +kernel, rfl, by decide⟩
theorem dJx4a65c_grow_92f84_20 : DI cJx4a65c_grow_92f84 20 (.iload_n 2) 1 21 := ⟨by decide +kernel, rfl⟩
theorem dJx4a65c_grow_92f84_21 : DI cJx4a65c_grow_92f84 21 (.iload_n 1) 1 22 := ⟨by decide +kernel, rfl⟩
theorem dJx4a65c_grow_92f84_22 : DI cJx4a65c_grow_92f84 22 (.iload_n 2) 1 23 := ⟨by decide +kernel, rfl⟩
theorem dJx4a65c_grow_92f84_23 : DI cJx4a65c_grow_92f84 23 (.isub) 1 24 := ⟨by decide +kernel, rfl⟩
theorem dJx4a65c_grow_92f84_24 : DI cJx4a65c_grow_92f84 24 (.iload_n 2) 1 25 := ⟨by decide +kernel, rfl⟩
theorem dJx4a65c_grow_92f84_25 : DI cJx4a65c_grow_92f84 25 (.iconst 1) 1 26 := ⟨by decide +kernel, rfl⟩
theorem dJx4a65c_grow_92f84_26 : DI cJx4a65c_grow_92f84 26 (.ishr) 1 27 := ⟨by decide +kernel, rfl⟩
theorem dJx4a65c_grow_92f84_27 : DI cJx4a65c_grow_92f84 27 (.invokestatic 73) 3 30 := ⟨by decide +kernel, rfl⟩
theorem dJx4a65c_grow_92f84_30 : DI cJx4a65c_grow_92f84 30 (.istore_n 3) 1 31 := ⟨by decide +kernel, rfl⟩
theorem dJx4a65c_grow_92f84_31 : DI cJx4a65c_grow_92f84 31 (.aload_n 0) 1 32 := ⟨by decide +kernel, rfl⟩
theorem dJx4a65c_grow_92f84_32 : DI cJx4a65c_grow_92f84 32 (.aload_n 0) 1 33 := ⟨by decide +kernel, rfl⟩
theorem dJx4a65c_grow_92f84_33 : DI cJx4a65c_grow_92f84 33 (.getfield 9) 3 36 := ⟨by decide +kernel, rfl⟩
theorem dJx4a65c_grow_92f84_36 : DI cJx4a65c_grow_92f84 36 (.iload_n 3) 1 37 := ⟨by decide +kernel, rfl⟩
theorem dJx4a65c_grow_92f84_37 : DI cJx4a65c_grow_92f84 37 (.invokestatic 66) 3 40 := ⟨by decide +kernel, rfl⟩
theorem dJx4a65c_grow_92f84_40 : DI cJx4a65c_grow_92f84 40 (.dup_x1) 1 41 := ⟨by decide +kernel, rfl⟩
theorem dJx4a65c_grow_92f84_41 : DI cJx4a65c_grow_92f84 41 (.putfield 9) 3 44 := ⟨by decide +kernel, rfl⟩
theorem dJx4a65c_grow_92f84_44 : DI cJx4a65c_grow_92f84 44 (.areturn) 1 45 := ⟨by decide +kernel, rfl⟩
theorem dJx4a65c_grow_92f84_45 : DI cJx4a65c_grow_92f84 45 (.aload_n 0) 1 46 := ⟨by decide +kernel, rfl⟩
theorem dJx4a65c_grow_92f84_46 : DI cJx4a65c_grow_92f84 46 (.bipush 10) 2 48 := ⟨by decide +kernel, rfl⟩
theorem dJx4a65c_grow_92f84_48 : DI cJx4a65c_grow_92f84 48 (.iload_n 1) 1 49 := ⟨by decide +kernel, rfl⟩
theorem dJx4a65c_grow_92f84_49 : DI cJx4a65c_grow_92f84 49 (.invokestatic 79) 3 52 := ⟨by decide +kernel, rfl⟩
theorem dJx4a65c_grow_92f84_52 : DI cJx4a65c_grow_92f84 52 (.anewarray 7) 3 55 := ⟨by decide +kernel, rfl⟩
theorem dJx4a65c_grow_92f84_55 : DI cJx4a65c_grow_92f84 55 (.dup_x1) 1 56 := ⟨by decide +kernel, rfl⟩
theorem dJx4a65c_grow_92f84_56 : DI cJx4a65c_grow_92f84 56 (.putfield 9) 3 59 := ⟨by decide +kernel, rfl⟩
theorem dJx4a65c_grow_92f84_59 : DI cJx4a65c_grow_92f84 59 (.areturn) 1 60 := ⟨by decide +kernel, rfl⟩
theorem dJx4a65c_grow_d5877_0 : DI cJx4a65c_grow_d5877 0 (.aload_n 0) 1 1 := ⟨by decide +kernel, rfl⟩
theorem dJx4a65c_grow_d5877_1 : DI cJx4a65c_grow_d5877 1 (.aload_n 0) 1 2 := ⟨by decide +kernel, rfl⟩
theorem dJx4a65c_grow_d5877_2 : DI cJx4a65c_grow_d5877 2 (.getfield 48) 3 5 := ⟨by decide +kernel, rfl⟩
theorem dJx4a65c_grow_d5877_5 : DI cJx4a65c_grow_d5877 5 (.iconst 1) 1 6 := ⟨by decide +kernel, rfl⟩
theorem dJx4a65c_grow_d5877_6 : DI cJx4a65c_grow_d5877 6 (.iadd) 1 7 := ⟨by decide +kernel, rfl⟩
theorem dJx4a65c_grow_d5877_7 : DI cJx4a65c_grow_d5877 7 (.invokevirtual 69) 3 10 := ⟨by decide +kernel, rfl⟩
theorem dJx4a65c_grow_d5877_10 : DI cJx4a65c_grow_d5877 10 (.areturn) 1 11 := ⟨by decide +kernel, rfl⟩
theorem dJx4a65c_size_8abf5_0 : DI cJx4a65c_size_8abf5 0 (.aload_n 0) 1 1 := ⟨by decide +kernel, rfl⟩
theorem dJx4a65c_size_8abf5_1 : DI cJx4a65c_size_8abf5 1 (.getfield 48) 3 4 := ⟨by decide +kernel, rfl⟩
theorem dJx4a65c_size_8abf5_4 : DI cJx4a65c_size_8abf5 4 (.ireturn) 1 5 := ⟨by decide +kernel, rfl⟩
theorem dJx4a65c_elementData_915e3_0 : DI cJx4a65c_elementData_915e3 0 (.aload_n 0) 1 1 := ⟨by decide +kernel, rfl⟩
theorem dJx4a65c_elementData_915e3_1 : DI cJx4a65c_elementData_915e3 1 (.getfield 9) 3 4 := ⟨by decide +kernel, rfl⟩
theorem dJx4a65c_elementData_915e3_4 : DI cJx4a65c_elementData_915e3 4 (.iload_n 1) 1 5 := ⟨by decide +kernel, rfl⟩
theorem dJx4a65c_elementData_915e3_5 : DI cJx4a65c_elementData_915e3 5 (.aaload) 1 6 := ⟨by decide +kernel, rfl⟩
theorem dJx4a65c_elementData_915e3_6 : DI cJx4a65c_elementData_915e3 6 (.areturn) 1 7 := ⟨by decide +kernel, rfl⟩
theorem dJx4a65c_get_915e3_0 : DI cJx4a65c_get_915e3 0 (.iload_n 1) 1 1 := ⟨by decide +kernel, rfl⟩
theorem dJx4a65c_get_915e3_1 : DI cJx4a65c_get_915e3 1 (.aload_n 0) 1 2 := ⟨by decide +kernel, rfl⟩
theorem dJx4a65c_get_915e3_2 : DI cJx4a65c_get_915e3 2 (.getfield 48) 3 5 := ⟨by decide +kernel, rfl⟩
theorem dJx4a65c_get_915e3_5 : DI cJx4a65c_get_915e3 5 (.invokestatic 118) 3 8 := ⟨by decide +kernel, rfl⟩
theorem dJx4a65c_get_915e3_8 : DI cJx4a65c_get_915e3 8 (.pop) 1 9 := ⟨by decide +kernel, rfl⟩
theorem dJx4a65c_get_915e3_9 : DI cJx4a65c_get_915e3 9 (.aload_n 0) 1 10 := ⟨by decide +kernel, rfl⟩
theorem dJx4a65c_get_915e3_10 : DI cJx4a65c_get_915e3 10 (.iload_n 1) 1 11 := ⟨by decide +kernel, rfl⟩
theorem dJx4a65c_get_915e3_11 : DI cJx4a65c_get_915e3 11 (.invokevirtual 123) 3 14 := ⟨by decide +kernel, rfl⟩
theorem dJx4a65c_get_915e3_14 : DI cJx4a65c_get_915e3 14 (.areturn) 1 15 := ⟨by decide +kernel, rfl⟩
theorem dJx4a65c_add_72be8_0 : DI cJx4a65c_add_72be8 0 (.iload_n 3) 1 1 := ⟨by decide +kernel, rfl⟩
theorem dJx4a65c_add_72be8_1 : DI cJx4a65c_add_72be8 1 (.aload_n 2) 1 2 := ⟨by decide +kernel, rfl⟩
theorem dJx4a65c_add_72be8_2 : DI cJx4a65c_add_72be8 2 (.arraylength) 1 3 := ⟨by decide +kernel, rfl⟩
theorem dJx4a65c_add_72be8_3 : DB cJx4a65c_add_72be8 3 (.if_icmp .ne 8) (8) 3 6 11 := ⟨by decide +kernel, rfl, by decide⟩
theorem dJx4a65c_add_72be8_6 : DI cJx4a65c_add_72be8 6 (.aload_n 0) 1 7 := ⟨by decide +kernel, rfl⟩
theorem dJx4a65c_add_72be8_7 : DI cJx4a65c_add_72be8 7 (.invokevirtual 129) 3 10 := ⟨by decide +kernel, rfl⟩
theorem dJx4a65c_add_72be8_10 : DI cJx4a65c_add_72be8 10 (.astore_n 2) 1 11 := ⟨by decide +kernel, rfl⟩
theorem dJx4a65c_add_72be8_11 : DI cJx4a65c_add_72be8 11 (.aload_n 2) 1 12 := ⟨by decide +kernel, rfl⟩
theorem dJx4a65c_add_72be8_12 : DI cJx4a65c_add_72be8 12 (.iload_n 3) 1 13 := ⟨by decide +kernel, rfl⟩
theorem dJx4a65c_add_72be8_13 : DI cJx4a65c_add_72be8 13 (.aload_n 1) 1 14 := ⟨by decide +kernel, rfl⟩
theorem dJx4a65c_add_72be8_14 : DI cJx4a65c_add_72be8 14 (.aastore) 1 15 := ⟨by decide +kernel, rfl⟩
theorem dJx4a65c_add_72be8_15 : DI cJx4a65c_add_72be8 15 (.aload_n 0) 1 16 := ⟨by decide +kernel, rfl⟩
theorem dJx4a65c_add_72be8_16 : DI cJx4a65c_add_72be8 16 (.iload_n 3) 1 17 := ⟨by decide +kernel, rfl⟩
theorem dJx4a65c_add_72be8_17 : DI cJx4a65c_add_72be8 17 (.iconst 1) 1 18 := ⟨by decide +kernel, rfl⟩
theorem dJx4a65c_add_72be8_18 : DI cJx4a65c_add_72be8 18 (.iadd) 1 19 := ⟨by decide +kernel, rfl⟩
theorem dJx4a65c_add_72be8_19 : DI cJx4a65c_add_72be8 19 (.putfield 48) 3 22 := ⟨by decide +kernel, rfl⟩
theorem dJx4a65c_add_72be8_22 : DI cJx4a65c_add_72be8 22 (.return_) 1 23 := ⟨by decide +kernel, rfl⟩
theorem dJx4a65c_add_9ea2d_0 : DI cJx4a65c_add_9ea2d 0 (.aload_n 0) 1 1 := ⟨by decide +kernel, rfl⟩
theorem dJx4a65c_add_9ea2d_1 : DI cJx4a65c_add_9ea2d 1 (.dup) 1 2 := ⟨by decide +kernel, rfl⟩
theorem dJx4a65c_add_9ea2d_2 : DI cJx4a65c_add_9ea2d 2 (.getfield 63) 3 5 := ⟨by decide +kernel, rfl⟩
theorem dJx4a65c_add_9ea2d_5 : DI cJx4a65c_add_9ea2d 5 (.iconst 1) 1 6 := ⟨by decide +kernel, rfl⟩
theorem dJx4a65c_add_9ea2d_6 : DI cJx4a65c_add_9ea2d 6 (.iadd) 1 7 := ⟨by decide +kernel, rfl⟩
theorem dJx4a65c_add_9ea2d_7 : DI cJx4a65c_add_9ea2d 7 (.putfield 63) 3 10 := ⟨by decide +kernel, rfl⟩
theorem dJx4a65c_add_9ea2d_10 : DI cJx4a65c_add_9ea2d 10 (.aload_n 0) 1 11 := ⟨by decide +kernel, rfl⟩
theorem dJx4a65c_add_9ea2d_11 : DI cJx4a65c_add_9ea2d 11 (.aload_n 1) 1 12 := ⟨by decide +kernel, rfl⟩
theorem dJx4a65c_add_9ea2d_12 : DI cJx4a65c_add_9ea2d 12 (.aload_n 0) 1 13 := ⟨by decide +kernel, rfl⟩
theorem dJx4a65c_add_9ea2d_13 : DI cJx4a65c_add_9ea2d 13 (.getfield 9) 3 16 := ⟨by decide +kernel, rfl⟩
theorem dJx4a65c_add_9ea2d_16 : DI cJx4a65c_add_9ea2d 16 (.aload_n 0) 1 17 := ⟨by decide +kernel, rfl⟩
theorem dJx4a65c_add_9ea2d_17 : DI cJx4a65c_add_9ea2d 17 (.getfield 48) 3 20 := ⟨by decide +kernel, rfl⟩
theorem dJx4a65c_add_9ea2d_20 : DI cJx4a65c_add_9ea2d 20 (.invokevirtual 131) 3 23 := ⟨by decide +kernel, rfl⟩
theorem dJx4a65c_add_9ea2d_23 : DI cJx4a65c_add_9ea2d 23 (.iconst 1) 1 24 := ⟨by decide +kernel, rfl⟩
theorem dJx4a65c_add_9ea2d_24 : DI cJx4a65c_add_9ea2d 24 (.ireturn) 1 25 := ⟨by decide +kernel, rfl⟩
theorem dJx4a65c_remove_915e3_0 : DI cJx4a65c_remove_915e3 0 (.iload_n 1) 1 1 := ⟨by decide +kernel, rfl⟩
theorem dJx4a65c_remove_915e3_1 : DI cJx4a65c_remove_915e3 1 (.aload_n 0) 1 2 := ⟨by decide +kernel, rfl⟩
theorem dJx4a65c_remove_915e3_2 : DI cJx4a65c_remove_915e3 2 (.getfield 48) 3 5 := ⟨by decide +kernel, rfl⟩
theorem dJx4a65c_remove_915e3_5 : DI cJx4a65c_remove_915e3 5 (.invokestatic 118) 3 8 := ⟨by decide +kernel, rfl⟩
theorem dJx4a65c_remove_915e3_8 : DI cJx4a65c_remove_915e3 8 (.pop) 1 9 := ⟨by decide +kernel, rfl⟩
theorem dJx4a65c_remove_915e3_9 : DI cJx4a65c_remove_915e3 9 (.aload_n 0) 1 10 := ⟨by decide +kernel, rfl⟩
theorem dJx4a65c_remove_915e3_10 : DI cJx4a65c_remove_915e3 10 (.getfield 9) 3 13 := ⟨by decide +kernel, rfl⟩
theorem dJx4a65c_remove_915e3_13 : DI cJx4a65c_remove_915e3 13 (.astore_n 2) 1 14 := ⟨by decide +kernel, rfl⟩
theorem dJx4a65c_remove_915e3_14 : DI cJx4a65c_remove_915e3 14 (.aload_n 2) 1 15 := ⟨by decide +kernel, rfl⟩
theorem dJx4a65c_remove_915e3_15 : DI cJx4a65c_remove_915e3 15 (.iload_n 1) 1 16 := ⟨by decide +kernel, rfl⟩
theorem dJx4a65c_remove_915e3_16 : DI cJx4a65c_remove_915e3 16 (.aaload) 1 17 := ⟨by decide +kernel, rfl⟩
theorem dJx4a65c_remove_915e3_17 : DI cJx4a65c_remove_915e3 17 (.astore_n 3) 1 18 := ⟨by decide +kernel, rfl⟩
theorem dJx4a65c_remove_915e3_18 : DI cJx4a65c_remove_915e3 18 (.aload_n 0) 1 19 := ⟨by decide +kernel, rfl⟩
theorem dJx4a65c_remove_915e3_19 : DI cJx4a65c_remove_915e3 19 (.aload_n 2) 1 20 := ⟨by decide +kernel, rfl⟩
theorem dJx4a65c_remove_915e3_20 : DI cJx4a65c_remove_915e3 20 (.iload_n 1) 1 21 := ⟨by decide +kernel, rfl⟩
theorem dJx4a65c_remove_915e3_21 : DI cJx4a65c_remove_915e3 21 (.invokevirtual 144) 3 24 := ⟨by decide +kernel, rfl⟩
theorem dJx4a65c_remove_915e3_24 : DI cJx4a65c_remove_915e3 24 (.aload_n 3) 1 25 := ⟨by decide +kernel, rfl⟩
theorem dJx4a65c_remove_915e3_25 : DI cJx4a65c_remove_915e3 25 (.areturn) 1 26 := ⟨by decide +kernel, rfl⟩
theorem dJx4a65c_fastRemove_b59b0_0 : DI cJx4a65c_fastRemove_b59b0 0 (.aload_n 0) 1 1 := ⟨by decide +kernel, rfl⟩
theorem dJx4a65c_fastRemove_b59b0_1 : DI cJx4a65c_fastRemove_b59b0 1 (.dup) 1 2 := ⟨by decide +kernel, rfl⟩
theorem dJx4a65c_fastRemove_b59b0_2 : DI cJx4a65c_fastRemove_b59b0 2 (.getfield 63) 3 5 := ⟨by decide +kernel, rfl⟩
theorem dJx4a65c_fastRemove_b59b0_5 : DI cJx4a65c_fastRemove_b59b0 5 (.iconst 1) 1 6 := ⟨by decide +kernel, rfl⟩
theorem dJx4a65c_fastRemove_b59b0_6 : DI cJx4a65c_fastRemove_b59b0 6 (.iadd) 1 7 := ⟨by decide +kernel, rfl⟩
theorem dJx4a65c_fastRemove_b59b0_7 : DI cJx4a65c_fastRemove_b59b0 7 (.putfield 63) 3 10 := ⟨by decide +kernel, rfl⟩
theorem dJx4a65c_fastRemove_b59b0_10 : DI cJx4a65c_fastRemove_b59b0 10 (.aload_n 0) 1 11 := ⟨by decide +kernel, rfl⟩
theorem dJx4a65c_fastRemove_b59b0_11 : DI cJx4a65c_fastRemove_b59b0 11 (.getfield 48) 3 14 := ⟨by decide +kernel, rfl⟩
theorem dJx4a65c_fastRemove_b59b0_14 : DI cJx4a65c_fastRemove_b59b0 14 (.iconst 1) 1 15 := ⟨by decide +kernel, rfl⟩
theorem dJx4a65c_fastRemove_b59b0_15 : DI cJx4a65c_fastRemove_b59b0 15 (.isub) 1 16 := ⟨by decide +kernel, rfl⟩
theorem dJx4a65c_fastRemove_b59b0_16 : DI cJx4a65c_fastRemove_b59b0 16 (.dup) 1 17 := ⟨by decide +kernel, rfl⟩
theorem dJx4a65c_fastRemove_b59b0_17 : DI cJx4a65c_fastRemove_b59b0 17 (.istore_n 3) 1 18 := ⟨by decide +kernel, rfl⟩
theorem dJx4a65c_fastRemove_b59b0_18 : DI cJx4a65c_fastRemove_b59b0 18 (.iload_n 2) 1 19 := ⟨by decide +kernel, rfl⟩
theorem dJx4a65c_fastRemove_b59b0_19 : DB cJx4a65c_fastRemove_b59b0 19 (.if_icmp .le 15) (15) 3 22 34 := ⟨by decide +kernel, rfl, by decide⟩
theorem dJx4a65c_fastRemove_b59b0_22 : DI cJx4a65c_fastRemove_b59b0 22 (.aload_n 1) 1 23 := ⟨by decide +kernel, rfl⟩
theorem dJx4a65c_fastRemove_b59b0_23 : DI cJx4a65c_fastRemove_b59b0 23 (.iload_n 2) 1 24 := ⟨by decide +kernel, rfl⟩
theorem dJx4a65c_fastRemove_b59b0_24 : DI cJx4a65c_fastRemove_b59b0 24 (.iconst 1) 1 25 := ⟨by decide +kernel, rfl⟩
theorem dJx4a65c_fastRemove_b59b0_25 : DI cJx4a65c_fastRemove_b59b0 25 (.iadd) 1 26 := ⟨by decide +kernel, rfl⟩
theorem dJx4a65c_fastRemove_b59b0_26 : DI cJx4a65c_fastRemove_b59b0 26 (.aload_n 1) 1 27 := ⟨by decide +kernel, rfl⟩
theorem dJx4a65c_fastRemove_b59b0_27 : DI cJx4a65c_fastRemove_b59b0 27 (.iload_n 2) 1 28 := ⟨by decide +kernel, rfl⟩
theorem dJx4a65c_fastRemove_b59b0_28 : DI cJx4a65c_fastRemove_b59b0 28 (.iload_n 3) 1 29 := ⟨by decide +kernel, rfl⟩
theorem dJx4a65c_fastRemove_b59b0_29 : DI cJx4a65c_fastRemove_b59b0 29 (.iload_n 2) 1 30 := ⟨by decide +kernel, rfl⟩
theorem dJx4a65c_fastRemove_b59b0_30 : DI cJx4a65c_fastRemove_b59b0 30 (.isub) 1 31 := ⟨by decide +kernel, rfl⟩
theorem dJx4a65c_fastRemove_b59b0_31 : DI cJx4a65c_fastRemove_b59b0 31 (.invokestatic 112) 3 34 := ⟨by decide +kernel, rfl⟩
theorem dJx4a65c_fastRemove_b59b0_34 : DI cJx4a65c_fastRemove_b59b0 34 (.aload_n 1) 1 35 := ⟨by decide +kernel, rfl⟩
theorem dJx4a65c_fastRemove_b59b0_35 : DI cJx4a65c_fastRemove_b59b0 35 (.aload_n 0) 1 36 := ⟨by decide +kernel, rfl⟩
theorem dJx4a65c_fastRemove_b59b0_36 : DI cJx4a65c_fastRemove_b59b0 36 (.iload_n 3) 1 37 := ⟨by decide +kernel, rfl⟩
theorem dJx4a65c_fastRemove_b59b0_37 : DI cJx4a65c_fastRemove_b59b0 37 (.dup_x1) 1 38 := ⟨by decide +kernel, rfl⟩
theorem dJx4a65c_fastRemove_b59b0_38 : DI cJx4a65c_fastRemove_b59b0 38 (.putfield 48) 3 41 := ⟨by decide +kernel, rfl⟩
theorem dJx4a65c_fastRemove_b59b0_41 : DI cJx4a65c_fastRemove_b59b0 41 (.aconst_null) 1 42 := ⟨by decide +kernel, rfl⟩
theorem dJx4a65c_fastRemove_b59b0_42 : DI cJx4a65c_fastRemove_b59b0 42 (.aastore) 1 43 := ⟨by decide +kernel, rfl⟩
theorem dJx4a65c_fastRemove_b59b0_43 : DI cJx4a65c_fastRemove_b59b0 43 (.return_) 1 44 := ⟨by decide +kernel, rfl⟩
theorem dJ7_copyOf_1904c_0 : DI cJ7_copyOf_1904c 0 (.aload_n 0) 1 1 := ⟨by decide +kernel, rfl⟩
theorem dJ7_copyOf_1904c_1 : DI cJ7_copyOf_1904c 1 (.iload_n 1) 1 2 := ⟨by decide +kernel, rfl⟩
theorem dJ7_copyOf_1904c_2 : DI cJ7_copyOf_1904c 2 (.aload_n 0) 1 3 := ⟨by decide +kernel, rfl⟩
theorem dJ7_copyOf_1904c_3 : DI cJ7_copyOf_1904c 3 (.invokevirtual 86) 3 6 := ⟨by decide +kernel, rfl⟩
theorem dJ7_copyOf_1904c_6 : DI cJ7_copyOf_1904c 6 (.invokestatic 300) 3 9 := ⟨by decide +kernel, rfl⟩
theorem dJ7_copyOf_1904c_9 : DI cJ7_copyOf_1904c 9 (.areturn) 1 10 := ⟨by decide +kernel, rfl⟩
theorem dJ7_copyOf_6403c_0 : DI cJ7_copyOf_6403c 0 (.aload_n 2) 1 1 := ⟨by decide +kernel, rfl⟩
theorem dJ7_copyOf_6403c_1 : DI cJ7_copyOf_6403c 1 (.ldc 110) 2 3 := ⟨by decide +kernel, rfl⟩
theorem dJ7_copyOf_6403c_3 : DB cJ7_copyOf_6403c 3 (.if_acmp .ne 10) (10) 3 6 13 := ⟨by decide +kernel, rfl, by decide⟩
theorem dJ7_copyOf_6403c_6 : DI cJ7_copyOf_6403c 6 (.iload_n 1) 1 7 := ⟨by decide +kernel, rfl⟩
theorem dJ7_copyOf_6403c_7 : DI cJ7_copyOf_6403c 7 (.anewarray 2) 3 10 := ⟨by decide +kernel, rfl⟩
theorem dJ7_copyOf_6403c_10 : DB cJ7_copyOf_6403c 10 (.goto 14) (14) 3 13 24 := ⟨by decide +kernel, rfl, by decide⟩
theorem dJ7_copyOf_6403c_13 : DI cJ7_copyOf_6403c 13 (.aload_n 2) 1 14 := ⟨by decide +kernel, rfl⟩
theorem dJ7_copyOf_6403c_14 : DI cJ7_copyOf_6403c 14 (.invokevirtual 90) 3 17 := ⟨by decide +kernel, rfl⟩
theorem dJ7_copyOf_6403c_17 : DI cJ7_copyOf_6403c 17 (.iload_n 1) 1 18 := ⟨by decide +kernel, rfl⟩
theorem dJ7_copyOf_6403c_18 : DI cJ7_copyOf_6403c 18 (.invokestatic 95) 3 21 := ⟨by decide +kernel, rfl⟩
theorem dJ7_copyOf_6403c_21 : DI cJ7_copyOf_6403c 21 (.checkcast 110) 3 24 := ⟨by decide +kernel, rfl⟩
theorem dJ7_copyOf_6403c_24 : DI cJ7_copyOf_6403c 24 (.astore_n 3) 1 25 := ⟨by decide +kernel, rfl⟩
theorem dJ7_copyOf_6403c_25 : DI cJ7_copyOf_6403c 25 (.aload_n 0) 1 26 := ⟨by decide +kernel, rfl⟩
theorem dJ7_copyOf_6403c_26 : DI cJ7_copyOf_6403c 26 (.iconst 0) 1 27 := ⟨by decide +kernel, rfl⟩
theorem dJ7_copyOf_6403c_27 : DI cJ7_copyOf_6403c 27 (.aload_n 3) 1 28 := ⟨by decide +kernel, rfl⟩
theorem dJ7_copyOf_6403c_28 : DI cJ7_copyOf_6403c 28 (.iconst 0) 1 29 := ⟨by decide +kernel, rfl⟩
theorem dJ7_copyOf_6403c_29 : DI cJ7_copyOf_6403c 29 (.aload_n 0) 1 30 := ⟨by decide +kernel, rfl⟩
theorem dJ7_copyOf_6403c_30 : DI cJ7_copyOf_6403c 30 (.arraylength) 1 31 := ⟨by decide +kernel, rfl⟩
theorem dJ7_copyOf_6403c_31 : DI cJ7_copyOf_6403c 31 (.iload_n 1) 1 32 := ⟨by decide +kernel, rfl⟩
theorem dJ7_copyOf_6403c_32 : DI cJ7_copyOf_6403c 32 (.invokestatic 304) 3 35 := ⟨by decide +kernel, rfl⟩
theorem dJ7_copyOf_6403c_35 : DI cJ7_copyOf_6403c 35 (.invokestatic 150) 3 38 := ⟨by decide +kernel, rfl⟩
theorem dJ7_copyOf_6403c_38 : DI cJ7_copyOf_6403c 38 (.aload_n 3) 1 39 := ⟨by decide +kernel, rfl⟩
theorem dJ7_copyOf_6403c_39 : DI cJ7_copyOf_6403c 39 (.areturn) 1 40 := ⟨by decide +kernel, rfl⟩
theorem dJ7_copyOf_59c91_0 : DI cJ7_copyOf_59c91 0 (.iload_n 1) 1 1 := ⟨by decide +kernel, rfl⟩
theorem dJ7_copyOf_59c91_1 : DI cJ7_copyOf_59c91 1 (.aload_n 0) 1 2 := ⟨by decide +kernel, rfl⟩
theorem dJ7_copyOf_59c91_2 : DI cJ7_copyOf_59c91 2 (.arraylength) 1 3 := ⟨by decide +kernel, rfl⟩
theorem dJ7_copyOf_59c91_3 : DB cJ7_copyOf_59c91 3 (.if_icmp .ne 11) (11) 3 6 14 := ⟨by decide +kernel, rfl, by decide⟩
theorem dJ7_copyOf_59c91_6 : DI cJ7_copyOf_59c91 6 (.aload_n 0) 1 7 := ⟨by decide +kernel, rfl⟩
theorem dJ7_copyOf_59c91_7 : DI cJ7_copyOf_59c91 7 (.invokevirtual 316) 3 10 := ⟨by decide +kernel, rfl⟩
theorem dJ7_copyOf_59c91_10 : DI cJ7_copyOf_59c91 10 (.checkcast 317) 3 13 := ⟨by decide +kernel, rfl⟩
theorem dJ7_copyOf_59c91_13 : DI cJ7_copyOf_59c91 13 (.areturn) 1 14 := ⟨by decide +kernel, rfl⟩
theorem dJ7_copyOf_59c91_14 : DI cJ7_copyOf_59c91 14 (.iload_n 1) 1 15 := ⟨by decide +kernel, rfl⟩
theorem dJ7_copyOf_59c91_15 : DI cJ7_copyOf_59c91 15 (.newarray .int) 2 17 := ⟨by decide +kernel, rfl⟩
theorem dJ7_copyOf_59c91_17 : DI cJ7_copyOf_59c91 17 (.astore_n 2) 1 18 := ⟨by decide +kernel, rfl⟩
theorem dJ7_copyOf_59c91_18 : DI cJ7_copyOf_59c91 18 (.aload_n 0) 1 19 := ⟨by decide +kernel, rfl⟩
theorem dJ7_copyOf_59c91_19 : DI cJ7_copyOf_59c91 19 (.iconst 0) 1 20 := ⟨by decide +kernel, rfl⟩
theorem dJ7_copyOf_59c91_20 : DI cJ7_copyOf_59c91 20 (.aload_n 2) 1 21 := ⟨by decide +kernel, rfl⟩
theorem dJ7_copyOf_59c91_21 : DI cJ7_copyOf_59c91 21 (.iconst 0) 1 22 := ⟨by decide +kernel, rfl⟩
theorem dJ7_copyOf_59c91_22 : DI cJ7_copyOf_59c91 22 (.aload_n 0) 1 23 := ⟨by decide +kernel, rfl⟩
theorem dJ7_copyOf_59c91_23 : DI cJ7_copyOf_59c91 23 (.arraylength) 1 24 := ⟨by decide +kernel, rfl⟩
theorem dJ7_copyOf_59c91_24 : DI cJ7_copyOf_59c91 24 (.iload_n 1) 1 25 := ⟨by decide +kernel, rfl⟩
theorem dJ7_copyOf_59c91_25 : DI cJ7_copyOf_59c91 25 (.invokestatic 304) 3 28 := ⟨by decide +kernel, rfl⟩
theorem dJ7_copyOf_59c91_28 : DI cJ7_copyOf_59c91 28 (.invokestatic 150) 3 31 := ⟨by decide +kernel, rfl⟩
theorem dJ7_copyOf_59c91_31 : DI cJ7_copyOf_59c91 31 (.aload_n 2) 1 32 := ⟨by decide +kernel, rfl⟩
theorem dJ7_copyOf_59c91_32 : DI cJ7_copyOf_59c91 32 (.areturn) 1 33 := ⟨by decide +kernel, rfl⟩
theorem dJ15_checkIndex_7cf53_0 : DI cJ15_checkIndex_7cf53 0 (.iload_n 0) 1 1 := ⟨by decide +kernel, rfl⟩
theorem dJ15_checkIndex_7cf53_1 : DI cJ15_checkIndex_7cf53 1 (.iload_n 1) 1 2 := ⟨by decide +kernel, rfl⟩
theorem dJ15_checkIndex_7cf53_2 : DI cJ15_checkIndex_7cf53 2 (.aconst_null) 1 3 := ⟨by decide +kernel, rfl⟩
theorem dJ15_checkIndex_7cf53_3 : DI cJ15_checkIndex_7cf53 3 (.invokestatic 105) 3 6 := ⟨by decide +kernel, rfl⟩
theorem dJ15_checkIndex_7cf53_6 : DI cJ15_checkIndex_7cf53 6 (.ireturn) 1 7 := ⟨by decide +kernel, rfl⟩
theorem dJ8_newLength_cabcc_0 : DI cJ8_newLength_cabcc 0 (.iload_n 0) 1 1 := ⟨by decide +kernel, rfl⟩
theorem dJ8_newLength_cabcc_1 : DI cJ8_newLength_cabcc 1 (.iload_n 1) 1 2 := ⟨by decide +kernel, rfl⟩
theorem dJ8_newLength_cabcc_2 : DI cJ8_newLength_cabcc 2 (.iload_n 2) 1 3 := ⟨by decide +kernel, rfl⟩
theorem dJ8_newLength_cabcc_3 : DI cJ8_newLength_cabcc 3 (.invokestatic 194) 3 6 := ⟨by decide +kernel, rfl⟩
theorem dJ8_newLength_cabcc_6 : DI cJ8_newLength_cabcc 6 (.iadd) 1 7 := ⟨by decide +kernel, rfl⟩
theorem dJ8_newLength_cabcc_7 : DI cJ8_newLength_cabcc 7 (.istore_n 3) 1 8 := ⟨by decide +kernel, rfl⟩
theorem dJ8_newLength_cabcc_8 : DI cJ8_newLength_cabcc 8 (.iconst 0) 1 9 := ⟨by decide +kernel, rfl⟩
theorem dJ8_newLength_cabcc_9 : DI cJ8_newLength_cabcc 9 (.iload_n 3) 1 10 := ⟨by decide +kernel, rfl⟩
theorem dJ8_newLength_cabcc_10 : DB cJ8_newLength_cabcc 10 (.if_icmp .ge 11) (11) 3 13 21 := ⟨by decide +kernel, rfl, by decide⟩
theorem dJ8_newLength_cabcc_13 : DI cJ8_newLength_cabcc 13 (.iload_n 3) 1 14 := ⟨by decide +kernel, rfl⟩
theorem dJ8_newLength_cabcc_14 : DI cJ8_newLength_cabcc 14 (.ldc 200) 2 16 := ⟨by decide +kernel, rfl⟩
theorem dJ8_newLength_cabcc_16 : DB cJ8_newLength_cabcc 16 (.if_icmp .gt 5) (5) 3 19 21 := ⟨by decide +kernel, rfl, by decide⟩
theorem dJ8_newLength_cabcc_19 : DI cJ8_newLength_cabcc 19 (.iload_n 3) 1 20 := ⟨by decide +kernel, rfl⟩
theorem dJ8_newLength_cabcc_20 : DI cJ8_newLength_cabcc 20 (.ireturn) 1 21 := ⟨by decide +kernel, rfl⟩
theorem dJ8_newLength_cabcc_21 : DI cJ8_newLength_cabcc 21 (.iload_n 0) 1 22 := ⟨by decide +kernel, rfl⟩
theorem dJ8_newLength_cabcc_22 : DI cJ8_newLength_cabcc 22 (.iload_n 1) 1 23 := ⟨by decide +kernel, rfl⟩
theorem dJ8_newLength_cabcc_23 : DI cJ8_newLength_cabcc 23 (.invokestatic 201) 3 26 := ⟨by decide +kernel, rfl⟩
theorem dJ8_newLength_cabcc_26 : DI cJ8_newLength_cabcc 26 (.ireturn) 1 27 := ⟨by decide +kernel, rfl⟩
theorem dJ8_hugeLength_7cf53_0 : DI cJ8_hugeLength_7cf53 0 (.iload_n 0) 1 1 := ⟨by decide +kernel, rfl⟩
theorem dJ8_hugeLength_7cf53_1 : DI cJ8_hugeLength_7cf53 1 (.iload_n 1) 1 2 := ⟨by decide +kernel, rfl⟩
theorem dJ8_hugeLength_7cf53_2 : DI cJ8_hugeLength_7cf53 2 (.iadd) 1 3 := ⟨by decide +kernel, rfl⟩
theorem dJ8_hugeLength_7cf53_3 : DI cJ8_hugeLength_7cf53 3 (.istore_n 2) 1 4 := ⟨by decide +kernel, rfl⟩
theorem dJ8_hugeLength_7cf53_4 : DI cJ8_hugeLength_7cf53 4 (.iload_n 2) 1 5 := ⟨by decide +kernel, rfl⟩
theorem dJ8_hugeLength_7cf53_5 : DB cJ8_hugeLength_7cf53 5 (.ifCond .ge 44) (44) 3 8 49 := ⟨by decide +kernel, rfl, by decide⟩
theorem dJ8_hugeLength_7cf53_8 : DI cJ8_hugeLength_7cf53 8 (.new 204) 3 11 := ⟨by decide +kernel, rfl⟩
theorem dJ8_hugeLength_7cf53_11 : DI cJ8_hugeLength_7cf53 11 (.dup) 1 12 := ⟨by decide +kernel, rfl⟩
theorem dJ8_hugeLength_7cf53_12 : DI cJ8_hugeLength_7cf53 12 (.new 89) 3 15 := ⟨by decide +kernel, rfl⟩
theorem dJ8_hugeLength_7cf53_15 : DI cJ8_hugeLength_7cf53 15 (.dup) 1 16 := ⟨by decide +kernel, rfl⟩
theorem dJ8_hugeLength_7cf53_16 : DI cJ8_hugeLength_7cf53 16 (.invokespecial 91) 3 19 := ⟨by decide +kernel, rfl⟩
theorem dJ8_hugeLength_7cf53_19 : DI cJ8_hugeLength_7cf53 19 (.ldc 206) 2 21 := ⟨by decide +kernel, rfl⟩
theorem dJ8_hugeLength_7cf53_21 : DI cJ8_hugeLength_7cf53 21 (.invokevirtual 94) 3 24 := ⟨by decide +kernel, rfl⟩
theorem dJ8_hugeLength_7cf53_24 : DI cJ8_hugeLength_7cf53 24 (.iload_n 0) 1 25 := ⟨by decide +kernel, rfl⟩
theorem dJ8_hugeLength_7cf53_25 : DI cJ8_hugeLength_7cf53 25 (.invokevirtual 98) 3 28 := ⟨by decide +kernel, rfl⟩
theorem dJ8_hugeLength_7cf53_28 : DI cJ8_hugeLength_7cf53 28 (.ldc 208) 2 30 := ⟨by decide +kernel, rfl⟩
theorem dJ8_hugeLength_7cf53_30 : DI cJ8_hugeLength_7cf53 30 (.invokevirtual 94) 3 33 := ⟨by decide +kernel, rfl⟩
theorem dJ8_hugeLength_7cf53_33 : DI cJ8_hugeLength_7cf53 33 (.iload_n 1) 1 34 := ⟨by decide +kernel, rfl⟩
theorem dJ8_hugeLength_7cf53_34 : DI cJ8_hugeLength_7cf53 34 (.invokevirtual 98) 3 37 := ⟨by decide +kernel, rfl⟩
theorem dJ8_hugeLength_7cf53_37 : DI cJ8_hugeLength_7cf53 37 (.ldc 210) 2 39 := ⟨by decide +kernel, rfl⟩
theorem dJ8_hugeLength_7cf53_39 : DI cJ8_hugeLength_7cf53 39 (.invokevirtual 94) 3 42 := ⟨by decide +kernel, rfl⟩
theorem dJ8_hugeLength_7cf53_42 : DI cJ8_hugeLength_7cf53 42 (.invokevirtual 101) 3 45 := ⟨by decide +kernel, rfl⟩
theorem dJ8_hugeLength_7cf53_45 : DI cJ8_hugeLength_7cf53 45 (.invokespecial 212) 3 48 := ⟨by decide +kernel, rfl⟩
theorem dJ8_hugeLength_7cf53_48 : DI cJ8_hugeLength_7cf53 48 (.athrow) 1 49 := ⟨by decide +kernel, rfl⟩
theorem dJ8_hugeLength_7cf53_49 : DI cJ8_hugeLength_7cf53 49 (.iload_n 2) 1 50 := ⟨by decide +kernel, rfl⟩
theorem dJ8_hugeLength_7cf53_50 : DI cJ8_hugeLength_7cf53 50 (.ldc 200) 2 52 := ⟨by decide +kernel, rfl⟩
theorem dJ8_hugeLength_7cf53_52 : DB cJ8_hugeLength_7cf53 52 (.if_icmp .gt 6) (6) 3 55 58 := ⟨by decide +kernel, rfl, by decide⟩
theorem dJ8_hugeLength_7cf53_55 : DI cJ8_hugeLength_7cf53 55 (.ldc 200) 2 57 := ⟨by decide +kernel, rfl⟩
theorem dJ8_hugeLength_7cf53_57 : DI cJ8_hugeLength_7cf53 57 (.ireturn) 1 58 := ⟨by decide +kernel, rfl⟩
theorem dJ8_hugeLength_7cf53_58 : DI cJ8_hugeLength_7cf53 58 (.iload_n 2) 1 59 := ⟨by decide +kernel, rfl⟩
theorem dJ8_hugeLength_7cf53_59 : DI cJ8_hugeLength_7cf53 59 (.ireturn) 1 60 := ⟨by decide +kernel, rfl⟩
theorem dJ3_checkIndex_8e157_0 : DI cJ3_checkIndex_8e157 0 (.iload_n 0) 1 1 := ⟨by decide +kernel, rfl⟩
theorem dJ3_checkIndex_8e157_1 : DB cJ3_checkIndex_8e157 1 (.ifCond .lt 8) (8) 3 4 9 := ⟨by decide +kernel, rfl, by decide⟩
theorem dJ3_checkIndex_8e157_4 : DI cJ3_checkIndex_8e157 4 (.iload_n 0) 1 5 := ⟨by decide +kernel, rfl⟩
theorem dJ3_checkIndex_8e157_5 : DI cJ3_checkIndex_8e157 5 (.iload_n 1) 1 6 := ⟨by decide +kernel, rfl⟩
theorem dJ3_checkIndex_8e157_6 : DB cJ3_checkIndex_8e157 6 (.if_icmp .lt 10) (10) 3 9 16 := ⟨by decide +kernel, rfl, by decide⟩
theorem dJ3_checkIndex_8e157_9 : DI cJ3_checkIndex_8e157 9 (.aload_n 2) 1 10 := ⟨by decide +kernel, rfl⟩
theorem dJ3_checkIndex_8e157_10 : DI cJ3_checkIndex_8e157 10 (.iload_n 0) 1 11 := ⟨by decide +kernel, rfl⟩
theorem dJ3_checkIndex_8e157_11 : DI cJ3_checkIndex_8e157 11 (.iload_n 1) 1 12 := ⟨by decide +kernel, rfl⟩
theorem dJ3_checkIndex_8e157_12 : DI cJ3_checkIndex_8e157 12 (.invokestatic 95) 3 15 := ⟨by decide +kernel, rfl⟩
theorem dJ3_checkIndex_8e157_15 : DI cJ3_checkIndex_8e157 15 (.athrow) 1 16 := ⟨by decide +kernel, rfl⟩
theorem dJ3_checkIndex_8e157_16 : DI cJ3_checkIndex_8e157 16 (.iload_n 0) 1 17 := ⟨by decide +kernel, rfl⟩
theorem dJ3_checkIndex_8e157_17 : DI cJ3_checkIndex_8e157 17 (.ireturn) 1 18 := ⟨by decide +kernel, rfl⟩
theorem dL_socket_0 : DI cL_socket 0 (.aload_n 3) 1 1 := ⟨by decide +kernel, rfl⟩
theorem dL_socket_1 : DI cL_socket 1 (.iconst 0) 1 2 := ⟨by decide +kernel, rfl⟩
theorem dL_socket_2 : DI cL_socket 2 (.aload_n 0) 1 3 := ⟨by decide +kernel, rfl⟩
theorem dL_socket_3 : DI cL_socket 3 (.iload_n 1) 1 4 := ⟨by decide +kernel, rfl⟩
theorem dL_socket_4 : DI cL_socket 4 (.iload_n 2) 1 5 := ⟨by decide +kernel, rfl⟩
theorem dL_socket_5 : DI cL_socket 5 (.invokevirtual 7) 3 8 := ⟨by decide +kernel, rfl⟩
theorem dL_socket_8 : DI cL_socket 8 (.i2l) 1 9 := ⟨by decide +kernel, rfl⟩
theorem dL_socket_9 : DI cL_socket 9 (.lastore) 1 10 := ⟨by decide +kernel, rfl⟩
theorem dL_socket_10 : DB cL_socket 10 (.goto 15) (15) 3 13 25 := ⟨by decide +kernel, rfl, by decide⟩
theorem dL_socket_13 : DI cL_socket 13 (.astore 4) 2 15 := ⟨by decide +kernel, rfl⟩
theorem dL_socket_15 : DI cL_socket 15 (.iconst 1) 1 16 := ⟨by decide +kernel, rfl⟩
theorem dL_socket_16 : DI cL_socket 16 (.ireturn) 1 17 := ⟨by decide +kernel, rfl⟩
theorem dL_socket_17 : DI cL_socket 17 (.astore 4) 2 19 := ⟨by decide +kernel, rfl⟩
theorem dL_socket_19 : DI cL_socket 19 (.iconst 2) 1 20 := ⟨by decide +kernel, rfl⟩
theorem dL_socket_20 : DI cL_socket 20 (.ireturn) 1 21 := ⟨by decide +kernel, rfl⟩
theorem dL_socket_21 : DI cL_socket 21 (.astore 4) 2 23 := ⟨by decide +kernel, rfl⟩
theorem dL_socket_23 : DI cL_socket 23 (.iconst 3) 1 24 := ⟨by decide +kernel, rfl⟩
theorem dL_socket_24 : DI cL_socket 24 (.ireturn) 1 25 := ⟨by decide +kernel, rfl⟩
theorem dL_socket_25 : DI cL_socket 25 (.iconst 0) 1 26 := ⟨by decide +kernel, rfl⟩
theorem dL_socket_26 : DI cL_socket 26 (.ireturn) 1 27 := ⟨by decide +kernel, rfl⟩
theorem dL_car_0 : DI cL_car 0 (.aload 4) 2 2 := ⟨by decide +kernel, rfl⟩
theorem dL_car_2 : DI cL_car 2 (.iconst 0) 1 3 := ⟨by decide +kernel, rfl⟩
theorem dL_car_3 : DI cL_car 3 (.aload_n 0) 1 4 := ⟨by decide +kernel, rfl⟩
theorem dL_car_4 : DI cL_car 4 (.iload_n 1) 1 5 := ⟨by decide +kernel, rfl⟩
theorem dL_car_5 : DI cL_car 5 (.iload_n 2) 1 6 := ⟨by decide +kernel, rfl⟩
theorem dL_car_6 : DI cL_car 6 (.iload_n 3) 1 7 := ⟨by decide +kernel, rfl⟩
theorem dL_car_7 : DI cL_car 7 (.invokevirtual 19) 3 10 := ⟨by decide +kernel, rfl⟩
theorem dL_car_10 : DI cL_car 10 (.i2l) 1 11 := ⟨by decide +kernel, rfl⟩
theorem dL_car_11 : DI cL_car 11 (.lastore) 1 12 := ⟨by decide +kernel, rfl⟩
theorem dL_car_12 : DB cL_car 12 (.goto 11) (11) 3 15 23 := ⟨by decide +kernel, rfl, by decide⟩
theorem dL_car_15 : DI cL_car 15 (.astore 5) 2 17 := ⟨by decide +kernel, rfl⟩
theorem dL_car_17 : DI cL_car 17 (.iconst 1) 1 18 := ⟨by decide +kernel, rfl⟩
theorem dL_car_18 : DI cL_car 18 (.ireturn) 1 19 := ⟨by decide +kernel, rfl⟩
theorem dL_car_19 : DI cL_car 19 (.astore 5) 2 21 := ⟨by decide +kernel, rfl⟩
theorem dL_car_21 : DI cL_car 21 (.iconst 2) 1 22 := ⟨by decide +kernel, rfl⟩
theorem dL_car_22 : DI cL_car 22 (.ireturn) 1 23 := ⟨by decide +kernel, rfl⟩
theorem dL_car_23 : DI cL_car 23 (.iconst 0) 1 24 := ⟨by decide +kernel, rfl⟩
theorem dL_car_24 : DI cL_car 24 (.ireturn) 1 25 := ⟨by decide +kernel, rfl⟩
theorem dL_card_0 : DI cL_card 0 (.aload_n 3) 1 1 := ⟨by decide +kernel, rfl⟩
theorem dL_card_1 : DI cL_card 1 (.iconst 0) 1 2 := ⟨by decide +kernel, rfl⟩
theorem dL_card_2 : DI cL_card 2 (.aload_n 0) 1 3 := ⟨by decide +kernel, rfl⟩
theorem dL_card_3 : DI cL_card 3 (.iload_n 1) 1 4 := ⟨by decide +kernel, rfl⟩
theorem dL_card_4 : DI cL_card 4 (.iload_n 2) 1 5 := ⟨by decide +kernel, rfl⟩
theorem dL_card_5 : DI cL_card 5 (.invokevirtual 23) 3 8 := ⟨by decide +kernel, rfl⟩
theorem dL_card_8 : DI cL_card 8 (.i2l) 1 9 := ⟨by decide +kernel, rfl⟩
theorem dL_card_9 : DI cL_card 9 (.lastore) 1 10 := ⟨by decide +kernel, rfl⟩
theorem dL_card_10 : DB cL_card 10 (.goto 15) (15) 3 13 25 := ⟨by decide +kernel, rfl, by decide⟩
theorem dL_card_13 : DI cL_card 13 (.astore 4) 2 15 := ⟨by decide +kernel, rfl⟩
theorem dL_card_15 : DI cL_card 15 (.iconst 1) 1 16 := ⟨by decide +kernel, rfl⟩
theorem dL_card_16 : DI cL_card 16 (.ireturn) 1 17 := ⟨by decide +kernel, rfl⟩
theorem dL_card_17 : DI cL_card 17 (.astore 4) 2 19 := ⟨by decide +kernel, rfl⟩
theorem dL_card_19 : DI cL_card 19 (.iconst 2) 1 20 := ⟨by decide +kernel, rfl⟩
theorem dL_card_20 : DI cL_card 20 (.ireturn) 1 21 := ⟨by decide +kernel, rfl⟩
theorem dL_card_21 : DI cL_card 21 (.astore 4) 2 23 := ⟨by decide +kernel, rfl⟩
theorem dL_card_23 : DI cL_card 23 (.iconst 3) 1 24 := ⟨by decide +kernel, rfl⟩
theorem dL_card_24 : DI cL_card 24 (.ireturn) 1 25 := ⟨by decide +kernel, rfl⟩
theorem dL_card_25 : DI cL_card 25 (.iconst 0) 1 26 := ⟨by decide +kernel, rfl⟩
theorem dL_card_26 : DI cL_card 26 (.ireturn) 1 27 := ⟨by decide +kernel, rfl⟩
theorem dL_good_0 : DI cL_good 0 (.aload_n 3) 1 1 := ⟨by decide +kernel, rfl⟩
theorem dL_good_1 : DI cL_good 1 (.iconst 0) 1 2 := ⟨by decide +kernel, rfl⟩
theorem dL_good_2 : DI cL_good 2 (.aload_n 0) 1 3 := ⟨by decide +kernel, rfl⟩
theorem dL_good_3 : DI cL_good 3 (.iload_n 1) 1 4 := ⟨by decide +kernel, rfl⟩
theorem dL_good_4 : DI cL_good 4 (.iload_n 2) 1 5 := ⟨by decide +kernel, rfl⟩
theorem dL_good_5 : DI cL_good 5 (.invokevirtual 26) 3 8 := ⟨by decide +kernel, rfl⟩
theorem dL_good_8 : DB cL_good 8 (.ifCond .eq 7) (7) 3 11 15 := ⟨by decide +kernel, rfl, by decide⟩
theorem dL_good_11 : DI cL_good 11 (.lconst 1) 1 12 := ⟨by decide +kernel, rfl⟩
theorem dL_good_12 : DB cL_good 12 (.goto 4) (4) 3 15 16 := ⟨by decide +kernel, rfl, by decide⟩
theorem dL_good_15 : DI cL_good 15 (.lconst 0) 1 16 := ⟨by decide +kernel, rfl⟩
theorem dL_good_16 : DI cL_good 16 (.lastore) 1 17 := ⟨by decide +kernel, rfl⟩
theorem dL_good_17 : DB cL_good 17 (.goto 7) (7) 3 20 24 := ⟨by decide +kernel, rfl, by decide⟩
theorem dL_good_20 : DI cL_good 20 (.astore 4) 2 22 := ⟨by decide +kernel, rfl⟩
theorem dL_good_22 : DI cL_good 22 (.iconst 1) 1 23 := ⟨by decide +kernel, rfl⟩
theorem dL_good_23 : DI cL_good 23 (.ireturn) 1 24 := ⟨by decide +kernel, rfl⟩
theorem dL_good_24 : DI cL_good 24 (.iconst 0) 1 25 := ⟨by decide +kernel, rfl⟩
theorem dL_good_25 : DI cL_good 25 (.ireturn) 1 26 := ⟨by decide +kernel, rfl⟩
theorem dL_set_0 : DI cL_set 0 (.aload_n 3) 1 1 := ⟨by decide +kernel, rfl⟩
theorem dL_set_1 : DI cL_set 1 (.iconst 0) 1 2 := ⟨by decide +kernel, rfl⟩
theorem dL_set_2 : DI cL_set 2 (.aload_n 0) 1 3 := ⟨by decide +kernel, rfl⟩
theorem dL_set_3 : DI cL_set 3 (.iload_n 1) 1 4 := ⟨by decide +kernel, rfl⟩
theorem dL_set_4 : DI cL_set 4 (.iload_n 2) 1 5 := ⟨by decide +kernel, rfl⟩
theorem dL_set_5 : DI cL_set 5 (.invokevirtual 30) 3 8 := ⟨by decide +kernel, rfl⟩
theorem dL_set_8 : DI cL_set 8 (.i2l) 1 9 := ⟨by decide +kernel, rfl⟩
theorem dL_set_9 : DI cL_set 9 (.lastore) 1 10 := ⟨by decide +kernel, rfl⟩
theorem dL_set_10 : DB cL_set 10 (.goto 7) (7) 3 13 17 := ⟨by decide +kernel, rfl, by decide⟩
theorem dL_set_13 : DI cL_set 13 (.astore 4) 2 15 := ⟨by decide +kernel, rfl⟩
theorem dL_set_15 : DI cL_set 15 (.iconst 1) 1 16 := ⟨by decide +kernel, rfl⟩
theorem dL_set_16 : DI cL_set 16 (.ireturn) 1 17 := ⟨by decide +kernel, rfl⟩
theorem dL_set_17 : DI cL_set 17 (.iconst 0) 1 18 := ⟨by decide +kernel, rfl⟩
theorem dL_set_18 : DI cL_set 18 (.ireturn) 1 19 := ⟨by decide +kernel, rfl⟩
theorem dL_fault_0 : DI cL_fault 0 (.aload_n 3) 1 1 := ⟨by decide +kernel, rfl⟩
theorem dL_fault_1 : DI cL_fault 1 (.iconst 0) 1 2 := ⟨by decide +kernel, rfl⟩
theorem dL_fault_2 : DI cL_fault 2 (.aload_n 0) 1 3 := ⟨by decide +kernel, rfl⟩
theorem dL_fault_3 : DI cL_fault 3 (.iload_n 1) 1 4 := ⟨by decide +kernel, rfl⟩
theorem dL_fault_4 : DI cL_fault 4 (.iload_n 2) 1 5 := ⟨by decide +kernel, rfl⟩
theorem dL_fault_5 : DI cL_fault 5 (.invokevirtual 33) 3 8 := ⟨by decide +kernel, rfl⟩
theorem dL_fault_8 : DB cL_fault 8 (.ifCond .eq 7) (7) 3 11 15 := ⟨by decide +kernel, rfl, by decide⟩
theorem dL_fault_11 : DI cL_fault 11 (.lconst 1) 1 12 := ⟨by decide +kernel, rfl⟩
theorem dL_fault_12 : DB cL_fault 12 (.goto 4) (4) 3 15 16 := ⟨by decide +kernel, rfl, by decide⟩
theorem dL_fault_15 : DI cL_fault 15 (.lconst 0) 1 16 := ⟨by decide +kernel, rfl⟩
theorem dL_fault_16 : DI cL_fault 16 (.lastore) 1 17 := ⟨by decide +kernel, rfl⟩
theorem dL_fault_17 : DB cL_fault 17 (.goto 7) (7) 3 20 24 := ⟨by decide +kernel, rfl, by decide⟩
theorem dL_fault_20 : DI cL_fault 20 (.astore 4) 2 22 := ⟨by decide +kernel, rfl⟩
theorem dL_fault_22 : DI cL_fault 22 (.iconst 1) 1 23 := ⟨by decide +kernel, rfl⟩
theorem dL_fault_23 : DI cL_fault 23 (.ireturn) 1 24 := ⟨by decide +kernel, rfl⟩
theorem dL_fault_24 : DI cL_fault 24 (.iconst 0) 1 25 := ⟨by decide +kernel, rfl⟩
theorem dL_fault_25 : DI cL_fault 25 (.ireturn) 1 26 := ⟨by decide +kernel, rfl⟩
theorem dL_link_0 : DI cL_link 0 (.aload_n 3) 1 1 := ⟨by decide +kernel, rfl⟩
theorem dL_link_1 : DI cL_link 1 (.iconst 0) 1 2 := ⟨by decide +kernel, rfl⟩
theorem dL_link_2 : DI cL_link 2 (.aload_n 0) 1 3 := ⟨by decide +kernel, rfl⟩
theorem dL_link_3 : DI cL_link 3 (.iload_n 1) 1 4 := ⟨by decide +kernel, rfl⟩
theorem dL_link_4 : DI cL_link 4 (.iload_n 2) 1 5 := ⟨by decide +kernel, rfl⟩
theorem dL_link_5 : DI cL_link 5 (.invokevirtual 36) 3 8 := ⟨by decide +kernel, rfl⟩
theorem dL_link_8 : DI cL_link 8 (.i2l) 1 9 := ⟨by decide +kernel, rfl⟩
theorem dL_link_9 : DI cL_link 9 (.lastore) 1 10 := ⟨by decide +kernel, rfl⟩
theorem dL_link_10 : DB cL_link 10 (.goto 7) (7) 3 13 17 := ⟨by decide +kernel, rfl, by decide⟩
theorem dL_link_13 : DI cL_link 13 (.astore 4) 2 15 := ⟨by decide +kernel, rfl⟩
theorem dL_link_15 : DI cL_link 15 (.iconst 1) 1 16 := ⟨by decide +kernel, rfl⟩
theorem dL_link_16 : DI cL_link 16 (.ireturn) 1 17 := ⟨by decide +kernel, rfl⟩
theorem dL_link_17 : DI cL_link 17 (.iconst 0) 1 18 := ⟨by decide +kernel, rfl⟩
theorem dL_link_18 : DI cL_link 18 (.ireturn) 1 19 := ⟨by decide +kernel, rfl⟩
theorem dL_tariff_0 : DI cL_tariff 0 (.aload_n 0) 1 1 := ⟨by decide +kernel, rfl⟩
theorem dL_tariff_1 : DI cL_tariff 1 (.iload_n 1) 1 2 := ⟨by decide +kernel, rfl⟩
theorem dL_tariff_2 : DI cL_tariff 2 (.iload_n 2) 1 3 := ⟨by decide +kernel, rfl⟩
theorem dL_tariff_3 : DI cL_tariff 3 (.iload_n 3) 1 4 := ⟨by decide +kernel, rfl⟩
theorem dL_tariff_4 : DI cL_tariff 4 (.iload 4) 2 6 := ⟨by decide +kernel, rfl⟩
theorem dL_tariff_6 : DI cL_tariff 6 (.iload 5) 2 8 := ⟨by decide +kernel, rfl⟩
theorem dL_tariff_8 : DI cL_tariff 8 (.invokevirtual 40) 3 11 := ⟨by decide +kernel, rfl⟩
theorem dL_tariff_11 : DB cL_tariff 11 (.goto 11) (11) 3 14 22 := ⟨by decide +kernel, rfl, by decide⟩
theorem dL_tariff_14 : DI cL_tariff 14 (.astore 6) 2 16 := ⟨by decide +kernel, rfl⟩
theorem dL_tariff_16 : DI cL_tariff 16 (.iconst 1) 1 17 := ⟨by decide +kernel, rfl⟩
theorem dL_tariff_17 : DI cL_tariff 17 (.ireturn) 1 18 := ⟨by decide +kernel, rfl⟩
theorem dL_tariff_18 : DI cL_tariff 18 (.astore 6) 2 20 := ⟨by decide +kernel, rfl⟩
theorem dL_tariff_20 : DI cL_tariff 20 (.iconst 2) 1 21 := ⟨by decide +kernel, rfl⟩
theorem dL_tariff_21 : DI cL_tariff 21 (.ireturn) 1 22 := ⟨by decide +kernel, rfl⟩
theorem dL_tariff_22 : DI cL_tariff 22 (.iconst 0) 1 23 := ⟨by decide +kernel, rfl⟩
theorem dL_tariff_23 : DI cL_tariff 23 (.ireturn) 1 24 := ⟨by decide +kernel, rfl⟩
theorem dL_book_0 : DI cL_book 0 (.aload 5) 2 2 := ⟨by decide +kernel, rfl⟩
theorem dL_book_2 : DI cL_book 2 (.iconst 0) 1 3 := ⟨by decide +kernel, rfl⟩
theorem dL_book_3 : DI cL_book 3 (.aload_n 0) 1 4 := ⟨by decide +kernel, rfl⟩
theorem dL_book_4 : DI cL_book 4 (.iload_n 1) 1 5 := ⟨by decide +kernel, rfl⟩
theorem dL_book_5 : DI cL_book 5 (.iload_n 2) 1 6 := ⟨by decide +kernel, rfl⟩
theorem dL_book_6 : DI cL_book 6 (.iload_n 3) 1 7 := ⟨by decide +kernel, rfl⟩
theorem dL_book_7 : DI cL_book 7 (.iload 4) 2 9 := ⟨by decide +kernel, rfl⟩
theorem dL_book_9 : DI cL_book 9 (.invokevirtual 44) 3 12 := ⟨by decide +kernel, rfl⟩
theorem dL_book_12 : DI cL_book 12 (.i2l) 1 13 := ⟨by decide +kernel, rfl⟩
theorem dL_book_13 : DI cL_book 13 (.lastore) 1 14 := ⟨by decide +kernel, rfl⟩
theorem dL_book_14 : DB cL_book 14 (.goto 15) (15) 3 17 29 := ⟨by decide +kernel, rfl, by decide⟩
theorem dL_book_17 : DI cL_book 17 (.astore 6) 2 19 := ⟨by decide +kernel, rfl⟩
theorem dL_book_19 : DI cL_book 19 (.iconst 1) 1 20 := ⟨by decide +kernel, rfl⟩
theorem dL_book_20 : DI cL_book 20 (.ireturn) 1 21 := ⟨by decide +kernel, rfl⟩
theorem dL_book_21 : DI cL_book 21 (.astore 6) 2 23 := ⟨by decide +kernel, rfl⟩
theorem dL_book_23 : DI cL_book 23 (.iconst 2) 1 24 := ⟨by decide +kernel, rfl⟩
theorem dL_book_24 : DI cL_book 24 (.ireturn) 1 25 := ⟨by decide +kernel, rfl⟩
theorem dL_book_25 : DI cL_book 25 (.astore 6) 2 27 := ⟨by decide +kernel, rfl⟩
theorem dL_book_27 : DI cL_book 27 (.iconst 3) 1 28 := ⟨by decide +kernel, rfl⟩
theorem dL_book_28 : DI cL_book 28 (.ireturn) 1 29 := ⟨by decide +kernel, rfl⟩
theorem dL_book_29 : DI cL_book 29 (.iconst 0) 1 30 := ⟨by decide +kernel, rfl⟩
theorem dL_book_30 : DI cL_book 30 (.ireturn) 1 31 := ⟨by decide +kernel, rfl⟩
theorem dL_plug_0 : DI cL_plug 0 (.aload 4) 2 2 := ⟨by decide +kernel, rfl⟩
theorem dL_plug_2 : DI cL_plug 2 (.iconst 0) 1 3 := ⟨by decide +kernel, rfl⟩
theorem dL_plug_3 : DI cL_plug 3 (.aload_n 0) 1 4 := ⟨by decide +kernel, rfl⟩
theorem dL_plug_4 : DI cL_plug 4 (.iload_n 1) 1 5 := ⟨by decide +kernel, rfl⟩
theorem dL_plug_5 : DI cL_plug 5 (.iload_n 2) 1 6 := ⟨by decide +kernel, rfl⟩
theorem dL_plug_6 : DI cL_plug 6 (.iload_n 3) 1 7 := ⟨by decide +kernel, rfl⟩
theorem dL_plug_7 : DI cL_plug 7 (.invokevirtual 48) 3 10 := ⟨by decide +kernel, rfl⟩
theorem dL_plug_10 : DI cL_plug 10 (.i2l) 1 11 := ⟨by decide +kernel, rfl⟩
theorem dL_plug_11 : DI cL_plug 11 (.lastore) 1 12 := ⟨by decide +kernel, rfl⟩
theorem dL_plug_12 : DB cL_plug 12 (.goto 11) (11) 3 15 23 := ⟨by decide +kernel, rfl, by decide⟩
theorem dL_plug_15 : DI cL_plug 15 (.astore 5) 2 17 := ⟨by decide +kernel, rfl⟩
theorem dL_plug_17 : DI cL_plug 17 (.iconst 1) 1 18 := ⟨by decide +kernel, rfl⟩
theorem dL_plug_18 : DI cL_plug 18 (.ireturn) 1 19 := ⟨by decide +kernel, rfl⟩
theorem dL_plug_19 : DI cL_plug 19 (.astore 5) 2 21 := ⟨by decide +kernel, rfl⟩
theorem dL_plug_21 : DI cL_plug 21 (.iconst 2) 1 22 := ⟨by decide +kernel, rfl⟩
theorem dL_plug_22 : DI cL_plug 22 (.ireturn) 1 23 := ⟨by decide +kernel, rfl⟩
theorem dL_plug_23 : DI cL_plug 23 (.iconst 0) 1 24 := ⟨by decide +kernel, rfl⟩
theorem dL_plug_24 : DI cL_plug 24 (.ireturn) 1 25 := ⟨by decide +kernel, rfl⟩
theorem dL_unplug_0 : DI cL_unplug 0 (.aload_n 2) 1 1 := ⟨by decide +kernel, rfl⟩
theorem dL_unplug_1 : DI cL_unplug 1 (.iconst 0) 1 2 := ⟨by decide +kernel, rfl⟩
theorem dL_unplug_2 : DI cL_unplug 2 (.aload_n 0) 1 3 := ⟨by decide +kernel, rfl⟩
theorem dL_unplug_3 : DI cL_unplug 3 (.iload_n 1) 1 4 := ⟨by decide +kernel, rfl⟩
theorem dL_unplug_4 : DI cL_unplug 4 (.invokevirtual 51) 3 7 := ⟨by decide +kernel, rfl⟩
theorem dL_unplug_7 : DI cL_unplug 7 (.i2l) 1 8 := ⟨by decide +kernel, rfl⟩
theorem dL_unplug_8 : DI cL_unplug 8 (.lastore) 1 9 := ⟨by decide +kernel, rfl⟩
theorem dL_unplug_9 : DB cL_unplug 9 (.goto 9) (9) 3 12 18 := ⟨by decide +kernel, rfl, by decide⟩
theorem dL_unplug_12 : DI cL_unplug 12 (.astore_n 3) 1 13 := ⟨by decide +kernel, rfl⟩
theorem dL_unplug_13 : DI cL_unplug 13 (.iconst 1) 1 14 := ⟨by decide +kernel, rfl⟩
theorem dL_unplug_14 : DI cL_unplug 14 (.ireturn) 1 15 := ⟨by decide +kernel, rfl⟩
theorem dL_unplug_15 : DI cL_unplug 15 (.astore_n 3) 1 16 := ⟨by decide +kernel, rfl⟩
theorem dL_unplug_16 : DI cL_unplug 16 (.iconst 2) 1 17 := ⟨by decide +kernel, rfl⟩
theorem dL_unplug_17 : DI cL_unplug 17 (.ireturn) 1 18 := ⟨by decide +kernel, rfl⟩
theorem dL_unplug_18 : DI cL_unplug 18 (.iconst 0) 1 19 := ⟨by decide +kernel, rfl⟩
theorem dL_unplug_19 : DI cL_unplug 19 (.ireturn) 1 20 := ⟨by decide +kernel, rfl⟩
theorem dL_pass_0 : DI cL_pass 0 (.aload_n 2) 1 1 := ⟨by decide +kernel, rfl⟩
theorem dL_pass_1 : DI cL_pass 1 (.iconst 0) 1 2 := ⟨by decide +kernel, rfl⟩
theorem dL_pass_2 : DI cL_pass 2 (.aload_n 0) 1 3 := ⟨by decide +kernel, rfl⟩
theorem dL_pass_3 : DI cL_pass 3 (.iload_n 1) 1 4 := ⟨by decide +kernel, rfl⟩
theorem dL_pass_4 : DI cL_pass 4 (.invokevirtual 55) 3 7 := ⟨by decide +kernel, rfl⟩
theorem dL_pass_7 : DI cL_pass 7 (.i2l) 1 8 := ⟨by decide +kernel, rfl⟩
theorem dL_pass_8 : DI cL_pass 8 (.lastore) 1 9 := ⟨by decide +kernel, rfl⟩
theorem dL_pass_9 : DB cL_pass 9 (.goto 9) (9) 3 12 18 := ⟨by decide +kernel, rfl, by decide⟩
theorem dL_pass_12 : DI cL_pass 12 (.astore_n 3) 1 13 := ⟨by decide +kernel, rfl⟩
theorem dL_pass_13 : DI cL_pass 13 (.iconst 1) 1 14 := ⟨by decide +kernel, rfl⟩
theorem dL_pass_14 : DI cL_pass 14 (.ireturn) 1 15 := ⟨by decide +kernel, rfl⟩
theorem dL_pass_15 : DI cL_pass 15 (.astore_n 3) 1 16 := ⟨by decide +kernel, rfl⟩
theorem dL_pass_16 : DI cL_pass 16 (.iconst 2) 1 17 := ⟨by decide +kernel, rfl⟩
theorem dL_pass_17 : DI cL_pass 17 (.ireturn) 1 18 := ⟨by decide +kernel, rfl⟩
theorem dL_pass_18 : DI cL_pass 18 (.iconst 0) 1 19 := ⟨by decide +kernel, rfl⟩
theorem dL_pass_19 : DI cL_pass 19 (.ireturn) 1 20 := ⟨by decide +kernel, rfl⟩
theorem dL_of_0 : DI cL_of 0 (.aload_n 3) 1 1 := ⟨by decide +kernel, rfl⟩
theorem dL_of_1 : DI cL_of 1 (.iconst 0) 1 2 := ⟨by decide +kernel, rfl⟩
theorem dL_of_2 : DI cL_of 2 (.aload_n 0) 1 3 := ⟨by decide +kernel, rfl⟩
theorem dL_of_3 : DI cL_of 3 (.iload_n 1) 1 4 := ⟨by decide +kernel, rfl⟩
theorem dL_of_4 : DI cL_of 4 (.iload_n 2) 1 5 := ⟨by decide +kernel, rfl⟩
theorem dL_of_5 : DI cL_of 5 (.invokevirtual 58) 3 8 := ⟨by decide +kernel, rfl⟩
theorem dL_of_8 : DI cL_of 8 (.i2l) 1 9 := ⟨by decide +kernel, rfl⟩
theorem dL_of_9 : DI cL_of 9 (.lastore) 1 10 := ⟨by decide +kernel, rfl⟩
theorem dL_of_10 : DB cL_of 10 (.goto 11) (11) 3 13 21 := ⟨by decide +kernel, rfl, by decide⟩
theorem dL_of_13 : DI cL_of 13 (.astore 4) 2 15 := ⟨by decide +kernel, rfl⟩
theorem dL_of_15 : DI cL_of 15 (.iconst 1) 1 16 := ⟨by decide +kernel, rfl⟩
theorem dL_of_16 : DI cL_of 16 (.ireturn) 1 17 := ⟨by decide +kernel, rfl⟩
theorem dL_of_17 : DI cL_of 17 (.astore 4) 2 19 := ⟨by decide +kernel, rfl⟩
theorem dL_of_19 : DI cL_of 19 (.iconst 2) 1 20 := ⟨by decide +kernel, rfl⟩
theorem dL_of_20 : DI cL_of 20 (.ireturn) 1 21 := ⟨by decide +kernel, rfl⟩
theorem dL_of_21 : DI cL_of 21 (.iconst 0) 1 22 := ⟨by decide +kernel, rfl⟩
theorem dL_of_22 : DI cL_of 22 (.ireturn) 1 23 := ⟨by decide +kernel, rfl⟩
theorem dL_charge_0 : DI cL_charge 0 (.aload_n 2) 1 1 := ⟨by decide +kernel, rfl⟩
theorem dL_charge_1 : DI cL_charge 1 (.iconst 0) 1 2 := ⟨by decide +kernel, rfl⟩
theorem dL_charge_2 : DI cL_charge 2 (.aload_n 0) 1 3 := ⟨by decide +kernel, rfl⟩
theorem dL_charge_3 : DI cL_charge 3 (.iload_n 1) 1 4 := ⟨by decide +kernel, rfl⟩
theorem dL_charge_4 : DI cL_charge 4 (.invokevirtual 61) 3 7 := ⟨by decide +kernel, rfl⟩
theorem dL_charge_7 : DI cL_charge 7 (.i2l) 1 8 := ⟨by decide +kernel, rfl⟩
theorem dL_charge_8 : DI cL_charge 8 (.lastore) 1 9 := ⟨by decide +kernel, rfl⟩
theorem dL_charge_9 : DB cL_charge 9 (.goto 6) (6) 3 12 15 := ⟨by decide +kernel, rfl, by decide⟩
theorem dL_charge_12 : DI cL_charge 12 (.astore_n 3) 1 13 := ⟨by decide +kernel, rfl⟩
theorem dL_charge_13 : DI cL_charge 13 (.iconst 1) 1 14 := ⟨by decide +kernel, rfl⟩
theorem dL_charge_14 : DI cL_charge 14 (.ireturn) 1 15 := ⟨by decide +kernel, rfl⟩
theorem dL_charge_15 : DI cL_charge 15 (.iconst 0) 1 16 := ⟨by decide +kernel, rfl⟩
theorem dL_charge_16 : DI cL_charge 16 (.ireturn) 1 17 := ⟨by decide +kernel, rfl⟩
theorem dL_power_0 : DI cL_power 0 (.aload_n 2) 1 1 := ⟨by decide +kernel, rfl⟩
theorem dL_power_1 : DI cL_power 1 (.iconst 0) 1 2 := ⟨by decide +kernel, rfl⟩
theorem dL_power_2 : DI cL_power 2 (.aload_n 0) 1 3 := ⟨by decide +kernel, rfl⟩
theorem dL_power_3 : DI cL_power 3 (.iload_n 1) 1 4 := ⟨by decide +kernel, rfl⟩
theorem dL_power_4 : DI cL_power 4 (.invokevirtual 64) 3 7 := ⟨by decide +kernel, rfl⟩
theorem dL_power_7 : DI cL_power 7 (.i2l) 1 8 := ⟨by decide +kernel, rfl⟩
theorem dL_power_8 : DI cL_power 8 (.lastore) 1 9 := ⟨by decide +kernel, rfl⟩
theorem dL_power_9 : DB cL_power 9 (.goto 6) (6) 3 12 15 := ⟨by decide +kernel, rfl, by decide⟩
theorem dL_power_12 : DI cL_power 12 (.astore_n 3) 1 13 := ⟨by decide +kernel, rfl⟩
theorem dL_power_13 : DI cL_power 13 (.iconst 1) 1 14 := ⟨by decide +kernel, rfl⟩
theorem dL_power_14 : DI cL_power 14 (.ireturn) 1 15 := ⟨by decide +kernel, rfl⟩
theorem dL_power_15 : DI cL_power 15 (.iconst 0) 1 16 := ⟨by decide +kernel, rfl⟩
theorem dL_power_16 : DI cL_power 16 (.ireturn) 1 17 := ⟨by decide +kernel, rfl⟩
theorem dL_powerAnew_0 : DI cL_powerAnew 0 (.aload_n 2) 1 1 := ⟨by decide +kernel, rfl⟩
theorem dL_powerAnew_1 : DI cL_powerAnew 1 (.iconst 0) 1 2 := ⟨by decide +kernel, rfl⟩
theorem dL_powerAnew_2 : DI cL_powerAnew 2 (.aload_n 0) 1 3 := ⟨by decide +kernel, rfl⟩
theorem dL_powerAnew_3 : DI cL_powerAnew 3 (.iload_n 1) 1 4 := ⟨by decide +kernel, rfl⟩
theorem dL_powerAnew_4 : DI cL_powerAnew 4 (.invokevirtual 67) 3 7 := ⟨by decide +kernel, rfl⟩
theorem dL_powerAnew_7 : DI cL_powerAnew 7 (.i2l) 1 8 := ⟨by decide +kernel, rfl⟩
theorem dL_powerAnew_8 : DI cL_powerAnew 8 (.lastore) 1 9 := ⟨by decide +kernel, rfl⟩
theorem dL_powerAnew_9 : DB cL_powerAnew 9 (.goto 6) (6) 3 12 15 := ⟨by decide +kernel, rfl, by decide⟩
theorem dL_powerAnew_12 : DI cL_powerAnew 12 (.astore_n 3) 1 13 := ⟨by decide +kernel, rfl⟩
theorem dL_powerAnew_13 : DI cL_powerAnew 13 (.iconst 1) 1 14 := ⟨by decide +kernel, rfl⟩
theorem dL_powerAnew_14 : DI cL_powerAnew 14 (.ireturn) 1 15 := ⟨by decide +kernel, rfl⟩
theorem dL_powerAnew_15 : DI cL_powerAnew 15 (.iconst 0) 1 16 := ⟨by decide +kernel, rfl⟩
theorem dL_powerAnew_16 : DI cL_powerAnew 16 (.ireturn) 1 17 := ⟨by decide +kernel, rfl⟩
theorem dL_bill_0 : DI cL_bill 0 (.aload_n 2) 1 1 := ⟨by decide +kernel, rfl⟩
theorem dL_bill_1 : DI cL_bill 1 (.iconst 0) 1 2 := ⟨by decide +kernel, rfl⟩
theorem dL_bill_2 : DI cL_bill 2 (.aload_n 0) 1 3 := ⟨by decide +kernel, rfl⟩
theorem dL_bill_3 : DI cL_bill 3 (.iload_n 1) 1 4 := ⟨by decide +kernel, rfl⟩
theorem dL_bill_4 : DI cL_bill 4 (.invokevirtual 70) 3 7 := ⟨by decide +kernel, rfl⟩
theorem dL_bill_7 : DI cL_bill 7 (.i2l) 1 8 := ⟨by decide +kernel, rfl⟩
theorem dL_bill_8 : DI cL_bill 8 (.lastore) 1 9 := ⟨by decide +kernel, rfl⟩
theorem dL_bill_9 : DB cL_bill 9 (.goto 6) (6) 3 12 15 := ⟨by decide +kernel, rfl, by decide⟩
theorem dL_bill_12 : DI cL_bill 12 (.astore_n 3) 1 13 := ⟨by decide +kernel, rfl⟩
theorem dL_bill_13 : DI cL_bill 13 (.iconst 1) 1 14 := ⟨by decide +kernel, rfl⟩
theorem dL_bill_14 : DI cL_bill 14 (.ireturn) 1 15 := ⟨by decide +kernel, rfl⟩
theorem dL_bill_15 : DI cL_bill 15 (.iconst 0) 1 16 := ⟨by decide +kernel, rfl⟩
theorem dL_bill_16 : DI cL_bill 16 (.ireturn) 1 17 := ⟨by decide +kernel, rfl⟩
theorem dL_billAnew_0 : DI cL_billAnew 0 (.aload_n 2) 1 1 := ⟨by decide +kernel, rfl⟩
theorem dL_billAnew_1 : DI cL_billAnew 1 (.iconst 0) 1 2 := ⟨by decide +kernel, rfl⟩
theorem dL_billAnew_2 : DI cL_billAnew 2 (.aload_n 0) 1 3 := ⟨by decide +kernel, rfl⟩
theorem dL_billAnew_3 : DI cL_billAnew 3 (.iload_n 1) 1 4 := ⟨by decide +kernel, rfl⟩
theorem dL_billAnew_4 : DI cL_billAnew 4 (.invokevirtual 73) 3 7 := ⟨by decide +kernel, rfl⟩
theorem dL_billAnew_7 : DI cL_billAnew 7 (.i2l) 1 8 := ⟨by decide +kernel, rfl⟩
theorem dL_billAnew_8 : DI cL_billAnew 8 (.lastore) 1 9 := ⟨by decide +kernel, rfl⟩
theorem dL_billAnew_9 : DB cL_billAnew 9 (.goto 6) (6) 3 12 15 := ⟨by decide +kernel, rfl, by decide⟩
theorem dL_billAnew_12 : DI cL_billAnew 12 (.astore_n 3) 1 13 := ⟨by decide +kernel, rfl⟩
theorem dL_billAnew_13 : DI cL_billAnew 13 (.iconst 1) 1 14 := ⟨by decide +kernel, rfl⟩
theorem dL_billAnew_14 : DI cL_billAnew 14 (.ireturn) 1 15 := ⟨by decide +kernel, rfl⟩
theorem dL_billAnew_15 : DI cL_billAnew 15 (.iconst 0) 1 16 := ⟨by decide +kernel, rfl⟩
theorem dL_billAnew_16 : DI cL_billAnew 16 (.ireturn) 1 17 := ⟨by decide +kernel, rfl⟩
theorem dL_dispute_0 : DI cL_dispute 0 (.aload_n 3) 1 1 := ⟨by decide +kernel, rfl⟩
theorem dL_dispute_1 : DI cL_dispute 1 (.iconst 0) 1 2 := ⟨by decide +kernel, rfl⟩
theorem dL_dispute_2 : DI cL_dispute 2 (.aload_n 0) 1 3 := ⟨by decide +kernel, rfl⟩
theorem dL_dispute_3 : DI cL_dispute 3 (.iload_n 1) 1 4 := ⟨by decide +kernel, rfl⟩
theorem dL_dispute_4 : DI cL_dispute 4 (.iload_n 2) 1 5 := ⟨by decide +kernel, rfl⟩
theorem dL_dispute_5 : DI cL_dispute 5 (.invokevirtual 76) 3 8 := ⟨by decide +kernel, rfl⟩
theorem dL_dispute_8 : DI cL_dispute 8 (.i2l) 1 9 := ⟨by decide +kernel, rfl⟩
theorem dL_dispute_9 : DI cL_dispute 9 (.lastore) 1 10 := ⟨by decide +kernel, rfl⟩
theorem dL_dispute_10 : DB cL_dispute 10 (.goto 15) (15) 3 13 25 := ⟨by decide +kernel, rfl, by decide⟩
theorem dL_dispute_13 : DI cL_dispute 13 (.astore 4) 2 15 := ⟨by decide +kernel, rfl⟩
theorem dL_dispute_15 : DI cL_dispute 15 (.iconst 1) 1 16 := ⟨by decide +kernel, rfl⟩
theorem dL_dispute_16 : DI cL_dispute 16 (.ireturn) 1 17 := ⟨by decide +kernel, rfl⟩
theorem dL_dispute_17 : DI cL_dispute 17 (.astore 4) 2 19 := ⟨by decide +kernel, rfl⟩
theorem dL_dispute_19 : DI cL_dispute 19 (.iconst 2) 1 20 := ⟨by decide +kernel, rfl⟩
theorem dL_dispute_20 : DI cL_dispute 20 (.ireturn) 1 21 := ⟨by decide +kernel, rfl⟩
theorem dL_dispute_21 : DI cL_dispute 21 (.astore 4) 2 23 := ⟨by decide +kernel, rfl⟩
theorem dL_dispute_23 : DI cL_dispute 23 (.iconst 3) 1 24 := ⟨by decide +kernel, rfl⟩
theorem dL_dispute_24 : DI cL_dispute 24 (.ireturn) 1 25 := ⟨by decide +kernel, rfl⟩
theorem dL_dispute_25 : DI cL_dispute 25 (.iconst 0) 1 26 := ⟨by decide +kernel, rfl⟩
theorem dL_dispute_26 : DI cL_dispute 26 (.ireturn) 1 27 := ⟨by decide +kernel, rfl⟩
theorem dL_owes_0 : DI cL_owes 0 (.aload_n 2) 1 1 := ⟨by decide +kernel, rfl⟩
theorem dL_owes_1 : DI cL_owes 1 (.iconst 0) 1 2 := ⟨by decide +kernel, rfl⟩
theorem dL_owes_2 : DI cL_owes 2 (.aload_n 0) 1 3 := ⟨by decide +kernel, rfl⟩
theorem dL_owes_3 : DI cL_owes 3 (.iload_n 1) 1 4 := ⟨by decide +kernel, rfl⟩
theorem dL_owes_4 : DI cL_owes 4 (.invokevirtual 79) 3 7 := ⟨by decide +kernel, rfl⟩
theorem dL_owes_7 : DI cL_owes 7 (.i2l) 1 8 := ⟨by decide +kernel, rfl⟩
theorem dL_owes_8 : DI cL_owes 8 (.lastore) 1 9 := ⟨by decide +kernel, rfl⟩
theorem dL_owes_9 : DB cL_owes 9 (.goto 6) (6) 3 12 15 := ⟨by decide +kernel, rfl, by decide⟩
theorem dL_owes_12 : DI cL_owes 12 (.astore_n 3) 1 13 := ⟨by decide +kernel, rfl⟩
theorem dL_owes_13 : DI cL_owes 13 (.iconst 1) 1 14 := ⟨by decide +kernel, rfl⟩
theorem dL_owes_14 : DI cL_owes 14 (.ireturn) 1 15 := ⟨by decide +kernel, rfl⟩
theorem dL_owes_15 : DI cL_owes 15 (.iconst 0) 1 16 := ⟨by decide +kernel, rfl⟩
theorem dL_owes_16 : DI cL_owes 16 (.ireturn) 1 17 := ⟨by decide +kernel, rfl⟩
theorem dL_account_0 : DI cL_account 0 (.aload_n 2) 1 1 := ⟨by decide +kernel, rfl⟩
theorem dL_account_1 : DI cL_account 1 (.iconst 0) 1 2 := ⟨by decide +kernel, rfl⟩
theorem dL_account_2 : DI cL_account 2 (.aload_n 0) 1 3 := ⟨by decide +kernel, rfl⟩
theorem dL_account_3 : DI cL_account 3 (.iload_n 1) 1 4 := ⟨by decide +kernel, rfl⟩
theorem dL_account_4 : DI cL_account 4 (.invokevirtual 82) 3 7 := ⟨by decide +kernel, rfl⟩
theorem dL_account_7 : DI cL_account 7 (.i2l) 1 8 := ⟨by decide +kernel, rfl⟩
theorem dL_account_8 : DI cL_account 8 (.lastore) 1 9 := ⟨by decide +kernel, rfl⟩
theorem dL_account_9 : DB cL_account 9 (.goto 6) (6) 3 12 15 := ⟨by decide +kernel, rfl, by decide⟩
theorem dL_account_12 : DI cL_account 12 (.astore_n 3) 1 13 := ⟨by decide +kernel, rfl⟩
theorem dL_account_13 : DI cL_account 13 (.iconst 1) 1 14 := ⟨by decide +kernel, rfl⟩
theorem dL_account_14 : DI cL_account 14 (.ireturn) 1 15 := ⟨by decide +kernel, rfl⟩
theorem dL_account_15 : DI cL_account 15 (.iconst 0) 1 16 := ⟨by decide +kernel, rfl⟩
theorem dL_account_16 : DI cL_account 16 (.ireturn) 1 17 := ⟨by decide +kernel, rfl⟩
end
section
theorem us_in {ws : List Cond} (ps : List Nat) (h : ws = ps.filterMap (fun i => lw_tbl[i]?)) (g : ws.all goodWord = true) : ∀ w ∈ ws, w ∈ TBL := by
  intro w hw
  have hg := List.all_eq_true.mp g w hw
  rw [h] at hw
  obtain ⟨i, -, hi⟩ := List.mem_filterMap.mp hw
  exact TBL_mk i hi hg
set_option maxRecDepth 20000 in
theorem cl0 : CL 0 RJx4a65c TJx4a65c 3 tyJx4a65c := ⟨rfl, by decide, by decide +kernel, tyJx4a65c_ok, nmJx4a65c, us_in [110, 106, 108] (by decide +kernel) (by decide +kernel), by decide +kernel⟩
set_option maxRecDepth 20000 in
theorem cl1 : CL 1 RX0 TX0 3 tyX0 := ⟨rfl, by decide, by decide +kernel, tyX0_ok, nmX0, us_in [635, 637, 639] (by decide +kernel) (by decide +kernel), by decide +kernel⟩
set_option maxRecDepth 20000 in
theorem cl2 : CL 2 RX1 TX1 5 tyX1 := ⟨rfl, by decide, by decide +kernel, tyX1_ok, nmX1, us_in [458, 460, 462, 464, 466] (by decide +kernel) (by decide +kernel), by decide +kernel⟩
set_option maxRecDepth 20000 in
theorem cl3 : CL 3 RX2 TX2 5 tyX2 := ⟨rfl, by decide, by decide +kernel, tyX2_ok, nmX2, us_in [493, 495, 497, 499, 501] (by decide +kernel) (by decide +kernel), by decide +kernel⟩
set_option maxRecDepth 20000 in
theorem cl4 : CL 4 RX3 TX3 2 tyX3 := ⟨rfl, by decide, by decide +kernel, tyX3_ok, nmX3, us_in [147, 149] (by decide +kernel) (by decide +kernel), by decide +kernel⟩
set_option maxRecDepth 20000 in
theorem cl5 : CL 5 RX4 TX4 14 tyX4 := ⟨rfl, by decide, by decide +kernel, tyX4_ok, nmX4, us_in [746, 748, 750, 752, 754, 756, 758, 760, 762, 764, 766, 768, 770, 772] (by decide +kernel) (by decide +kernel), by decide +kernel⟩
set_option maxRecDepth 20000 in
theorem cl6 : CL 6 RX5 TX5 8 tyX5 := ⟨rfl, by decide, by decide +kernel, tyX5_ok, nmX5, us_in [419, 421, 423, 425, 427, 429, 431, 433] (by decide +kernel) (by decide +kernel), by decide +kernel⟩
set_option maxRecDepth 20000 in
theorem cl7 : CL 7 RX6 TX6 4 tyX6 := ⟨rfl, by decide, by decide +kernel, tyX6_ok, nmX6, us_in [690, 692, 694, 696] (by decide +kernel) (by decide +kernel), by decide +kernel⟩
set_option maxRecDepth 20000 in
theorem cl8 : CL 8 RX7 TX7 4 tyX7 := ⟨rfl, by decide, by decide +kernel, tyX7_ok, nmX7, us_in [133, 135, 137, 139] (by decide +kernel) (by decide +kernel), by decide +kernel⟩
set_option maxRecDepth 20000 in
theorem cl9 : CL 9 RX8 TX8 5 tyX8 := ⟨rfl, by decide, by decide +kernel, tyX8_ok, nmX8, us_in [708, 710, 712, 714, 716] (by decide +kernel) (by decide +kernel), by decide +kernel⟩
set_option maxRecDepth 20000 in
theorem cl10 : CL 10 RX9 TX9 11 tyX9 := ⟨rfl, by decide, by decide +kernel, tyX9_ok, nmX9, us_in [225, 227, 229, 231, 233, 235, 237, 239, 241, 243, 245] (by decide +kernel) (by decide +kernel), by decide +kernel⟩
set_option maxRecDepth 20000 in
theorem cl11 : CL 11 RX10 TX10 50 tyX10 := ⟨rfl, by decide, by decide +kernel, tyX10_ok, nmX10, us_in [1024, 1026, 1028, 1030, 1032, 1034, 1036, 1038, 1040, 1042, 1044, 1046, 1048, 1050, 1052, 1054, 1056, 1058, 1060, 1062, 1064, 1066, 1068, 1070, 1072, 1074, 1076, 1078, 1080, 1082, 1084, 1086, 1088, 1090, 1092, 1094, 1096, 1098, 1100, 1102, 1104, 1106, 1108, 1110, 1112, 1114, 1116, 1118, 1120, 1122] (by decide +kernel) (by decide +kernel), by decide +kernel⟩
theorem fJx4a65c_9 : FD RJx4a65c 9 0 TJx4a65c 3 1 1 true := ⟨by decide, rfl, by decide +kernel, RJx4a65c, TBL_mk 101 (by decide +kernel) (by decide +kernel), Or.inl rfl⟩
theorem fJx4a65c_48 : FD RJx4a65c 48 0 TJx4a65c 3 2 2 false := ⟨by decide, rfl, by decide +kernel, RJx4a65c, TBL_mk 102 (by decide +kernel) (by decide +kernel), Or.inl rfl⟩
theorem fJx4a65c_63 : FD RJx4a65c 63 0 TJx4a65c 3 0 0 false := ⟨by decide, rfl, by decide +kernel, RJx4a65c, TBL_mk 104 (by decide +kernel) (by decide +kernel), Or.inr (TBL_mk 105 (by decide +kernel) (by decide +kernel))⟩
theorem fX7_7 : FD RX7 7 8 TX7 4 0 512 false := ⟨by decide, rfl, by decide +kernel, RX7, TBL_mk 125 (by decide +kernel) (by decide +kernel), Or.inl rfl⟩
theorem fX6_43 : FD RX6 43 8 TX7 4 0 512 false := ⟨by decide, rfl, by decide +kernel, RX7, TBL_mk 126 (by decide +kernel) (by decide +kernel), Or.inl rfl⟩
theorem fX7_13 : FD RX7 13 8 TX7 4 1 513 false := ⟨by decide, rfl, by decide +kernel, RX7, TBL_mk 127 (by decide +kernel) (by decide +kernel), Or.inl rfl⟩
theorem fX6_24 : FD RX6 24 8 TX7 4 1 513 false := ⟨by decide, rfl, by decide +kernel, RX7, TBL_mk 128 (by decide +kernel) (by decide +kernel), Or.inl rfl⟩
theorem fX7_16 : FD RX7 16 8 TX7 4 2 514 false := ⟨by decide, rfl, by decide +kernel, RX7, TBL_mk 129 (by decide +kernel) (by decide +kernel), Or.inl rfl⟩
theorem fX6_31 : FD RX6 31 8 TX7 4 2 514 false := ⟨by decide, rfl, by decide +kernel, RX7, TBL_mk 130 (by decide +kernel) (by decide +kernel), Or.inl rfl⟩
theorem fX7_19 : FD RX7 19 8 TX7 4 3 515 false := ⟨by decide, rfl, by decide +kernel, RX7, TBL_mk 131 (by decide +kernel) (by decide +kernel), Or.inl rfl⟩
theorem fX6_40 : FD RX6 40 8 TX7 4 3 515 false := ⟨by decide, rfl, by decide +kernel, RX7, TBL_mk 132 (by decide +kernel) (by decide +kernel), Or.inl rfl⟩
theorem fX3_12 : FD RX3 12 4 TX3 2 0 256 true := ⟨by decide, rfl, by decide +kernel, RX3, TBL_mk 142 (by decide +kernel) (by decide +kernel), Or.inl rfl⟩
theorem fX4_55 : FD RX4 55 4 TX3 2 0 256 true := ⟨by decide, rfl, by decide +kernel, RX3, TBL_mk 143 (by decide +kernel) (by decide +kernel), Or.inl rfl⟩
theorem fX9_130 : FD RX9 130 4 TX3 2 0 256 true := ⟨by decide, rfl, by decide +kernel, RX3, TBL_mk 144 (by decide +kernel) (by decide +kernel), Or.inl rfl⟩
theorem fX3_18 : FD RX3 18 4 TX3 2 1 257 false := ⟨by decide, rfl, by decide +kernel, RX3, TBL_mk 145 (by decide +kernel) (by decide +kernel), Or.inl rfl⟩
theorem fX9_275 : FD RX9 275 4 TX3 2 1 257 false := ⟨by decide, rfl, by decide +kernel, RX3, TBL_mk 146 (by decide +kernel) (by decide +kernel), Or.inl rfl⟩
theorem fX9_10 : FD RX9 10 10 TX9 11 0 640 true := ⟨by decide, rfl, by decide +kernel, RX9, TBL_mk 214 (by decide +kernel) (by decide +kernel), Or.inl rfl⟩
theorem fX9_16 : FD RX9 16 10 TX9 11 1 641 true := ⟨by decide, rfl, by decide +kernel, RX9, TBL_mk 215 (by decide +kernel) (by decide +kernel), Or.inl rfl⟩
theorem fX9_19 : FD RX9 19 10 TX9 11 2 642 true := ⟨by decide, rfl, by decide +kernel, RX9, TBL_mk 216 (by decide +kernel) (by decide +kernel), Or.inl rfl⟩
theorem fX9_22 : FD RX9 22 10 TX9 11 3 643 true := ⟨by decide, rfl, by decide +kernel, RX9, TBL_mk 217 (by decide +kernel) (by decide +kernel), Or.inl rfl⟩
theorem fX9_25 : FD RX9 25 10 TX9 11 4 644 true := ⟨by decide, rfl, by decide +kernel, RX9, TBL_mk 218 (by decide +kernel) (by decide +kernel), Or.inl rfl⟩
theorem fX9_28 : FD RX9 28 10 TX9 11 5 645 true := ⟨by decide, rfl, by decide +kernel, RX9, TBL_mk 219 (by decide +kernel) (by decide +kernel), Or.inl rfl⟩
theorem fX9_31 : FD RX9 31 10 TX9 11 6 646 false := ⟨by decide, rfl, by decide +kernel, RX9, TBL_mk 220 (by decide +kernel) (by decide +kernel), Or.inl rfl⟩
theorem fX9_35 : FD RX9 35 10 TX9 11 7 647 false := ⟨by decide, rfl, by decide +kernel, RX9, TBL_mk 221 (by decide +kernel) (by decide +kernel), Or.inl rfl⟩
theorem fX9_38 : FD RX9 38 10 TX9 11 8 648 false := ⟨by decide, rfl, by decide +kernel, RX9, TBL_mk 222 (by decide +kernel) (by decide +kernel), Or.inl rfl⟩
theorem fX9_41 : FD RX9 41 10 TX9 11 9 649 false := ⟨by decide, rfl, by decide +kernel, RX9, TBL_mk 223 (by decide +kernel) (by decide +kernel), Or.inl rfl⟩
theorem fX9_44 : FD RX9 44 10 TX9 11 10 650 false := ⟨by decide, rfl, by decide +kernel, RX9, TBL_mk 224 (by decide +kernel) (by decide +kernel), Or.inl rfl⟩
theorem fX5_31 : FD RX5 31 6 TX5 8 0 384 false := ⟨by decide, rfl, by decide +kernel, RX5, TBL_mk 399 (by decide +kernel) (by decide +kernel), Or.inl rfl⟩
theorem fX9_76 : FD RX9 76 6 TX5 8 0 384 false := ⟨by decide, rfl, by decide +kernel, RX5, TBL_mk 400 (by decide +kernel) (by decide +kernel), Or.inl rfl⟩
theorem fX5_34 : FD RX5 34 6 TX5 8 1 385 true := ⟨by decide, rfl, by decide +kernel, RX5, TBL_mk 401 (by decide +kernel) (by decide +kernel), Or.inl rfl⟩
theorem fX4_49 : FD RX4 49 6 TX5 8 1 385 true := ⟨by decide, rfl, by decide +kernel, RX5, TBL_mk 402 (by decide +kernel) (by decide +kernel), Or.inl rfl⟩
theorem fX9_395 : FD RX9 395 6 TX5 8 1 385 true := ⟨by decide, rfl, by decide +kernel, RX5, TBL_mk 403 (by decide +kernel) (by decide +kernel), Or.inl rfl⟩
theorem fX5_38 : FD RX5 38 6 TX5 8 2 386 false := ⟨by decide, rfl, by decide +kernel, RX5, TBL_mk 404 (by decide +kernel) (by decide +kernel), Or.inl rfl⟩
theorem fX4_86 : FD RX4 86 6 TX5 8 2 386 false := ⟨by decide, rfl, by decide +kernel, RX5, TBL_mk 405 (by decide +kernel) (by decide +kernel), Or.inl rfl⟩
theorem fX5_7 : FD RX5 7 6 TX5 8 3 387 false := ⟨by decide, rfl, by decide +kernel, RX5, TBL_mk 406 (by decide +kernel) (by decide +kernel), Or.inl rfl⟩
theorem fX4_77 : FD RX4 77 6 TX5 8 3 387 false := ⟨by decide, rfl, by decide +kernel, RX5, TBL_mk 407 (by decide +kernel) (by decide +kernel), Or.inl rfl⟩
theorem fX9_113 : FD RX9 113 6 TX5 8 3 387 false := ⟨by decide, rfl, by decide +kernel, RX5, TBL_mk 408 (by decide +kernel) (by decide +kernel), Or.inl rfl⟩
theorem fX5_13 : FD RX5 13 6 TX5 8 4 388 false := ⟨by decide, rfl, by decide +kernel, RX5, TBL_mk 409 (by decide +kernel) (by decide +kernel), Or.inl rfl⟩
theorem fX4_71 : FD RX4 71 6 TX5 8 4 388 false := ⟨by decide, rfl, by decide +kernel, RX5, TBL_mk 410 (by decide +kernel) (by decide +kernel), Or.inl rfl⟩
theorem fX9_116 : FD RX9 116 6 TX5 8 4 388 false := ⟨by decide, rfl, by decide +kernel, RX5, TBL_mk 411 (by decide +kernel) (by decide +kernel), Or.inl rfl⟩
theorem fX5_16 : FD RX5 16 6 TX5 8 5 389 false := ⟨by decide, rfl, by decide +kernel, RX5, TBL_mk 412 (by decide +kernel) (by decide +kernel), Or.inl rfl⟩
theorem fX4_95 : FD RX4 95 6 TX5 8 5 389 false := ⟨by decide, rfl, by decide +kernel, RX5, TBL_mk 413 (by decide +kernel) (by decide +kernel), Or.inl rfl⟩
theorem fX9_301 : FD RX9 301 6 TX5 8 5 389 false := ⟨by decide, rfl, by decide +kernel, RX5, TBL_mk 414 (by decide +kernel) (by decide +kernel), Or.inl rfl⟩
theorem fX5_20 : FD RX5 20 6 TX5 8 6 390 true := ⟨by decide, rfl, by decide +kernel, RX5, TBL_mk 415 (by decide +kernel) (by decide +kernel), Or.inl rfl⟩
theorem fX9_190 : FD RX9 190 6 TX5 8 6 390 true := ⟨by decide, rfl, by decide +kernel, RX5, TBL_mk 416 (by decide +kernel) (by decide +kernel), Or.inl rfl⟩
theorem fX5_27 : FD RX5 27 6 TX5 8 7 391 true := ⟨by decide, rfl, by decide +kernel, RX5, TBL_mk 417 (by decide +kernel) (by decide +kernel), Or.inl rfl⟩
theorem fX9_145 : FD RX9 145 6 TX5 8 7 391 true := ⟨by decide, rfl, by decide +kernel, RX5, TBL_mk 418 (by decide +kernel) (by decide +kernel), Or.inl rfl⟩
theorem fX1_15 : FD RX1 15 2 TX1 5 0 128 false := ⟨by decide, rfl, by decide +kernel, RX1, TBL_mk 450 (by decide +kernel) (by decide +kernel), Or.inl rfl⟩
theorem fX9_85 : FD RX9 85 2 TX1 5 0 128 false := ⟨by decide, rfl, by decide +kernel, RX1, TBL_mk 451 (by decide +kernel) (by decide +kernel), Or.inl rfl⟩
theorem fX1_19 : FD RX1 19 2 TX1 5 1 129 false := ⟨by decide, rfl, by decide +kernel, RX1, TBL_mk 452 (by decide +kernel) (by decide +kernel), Or.inl rfl⟩
theorem fX1_25 : FD RX1 25 2 TX1 5 2 130 false := ⟨by decide, rfl, by decide +kernel, RX1, TBL_mk 453 (by decide +kernel) (by decide +kernel), Or.inl rfl⟩
theorem fX1_22 : FD RX1 22 2 TX1 5 3 131 false := ⟨by decide, rfl, by decide +kernel, RX1, TBL_mk 454 (by decide +kernel) (by decide +kernel), Or.inl rfl⟩
theorem fX9_234 : FD RX9 234 2 TX1 5 3 131 false := ⟨by decide, rfl, by decide +kernel, RX1, TBL_mk 455 (by decide +kernel) (by decide +kernel), Or.inl rfl⟩
theorem fX1_9 : FD RX1 9 2 TX1 5 4 132 false := ⟨by decide, rfl, by decide +kernel, RX1, TBL_mk 456 (by decide +kernel) (by decide +kernel), Or.inl rfl⟩
theorem fX9_183 : FD RX9 183 2 TX1 5 4 132 false := ⟨by decide, rfl, by decide +kernel, RX1, TBL_mk 457 (by decide +kernel) (by decide +kernel), Or.inl rfl⟩
theorem fX2_20 : FD RX2 20 3 TX2 5 0 192 true := ⟨by decide, rfl, by decide +kernel, RX2, TBL_mk 482 (by decide +kernel) (by decide +kernel), Or.inl rfl⟩
theorem fX4_98 : FD RX4 98 3 TX2 5 0 192 true := ⟨by decide, rfl, by decide +kernel, RX2, TBL_mk 483 (by decide +kernel) (by decide +kernel), Or.inl rfl⟩
theorem fX9_388 : FD RX9 388 3 TX2 5 0 192 true := ⟨by decide, rfl, by decide +kernel, RX2, TBL_mk 484 (by decide +kernel) (by decide +kernel), Or.inl rfl⟩
theorem fX2_24 : FD RX2 24 3 TX2 5 1 193 false := ⟨by decide, rfl, by decide +kernel, RX2, TBL_mk 485 (by decide +kernel) (by decide +kernel), Or.inl rfl⟩
theorem fX9_365 : FD RX9 365 3 TX2 5 1 193 false := ⟨by decide, rfl, by decide +kernel, RX2, TBL_mk 486 (by decide +kernel) (by decide +kernel), Or.inl rfl⟩
theorem fX2_7 : FD RX2 7 3 TX2 5 2 194 false := ⟨by decide, rfl, by decide +kernel, RX2, TBL_mk 487 (by decide +kernel) (by decide +kernel), Or.inl rfl⟩
theorem fX9_95 : FD RX9 95 3 TX2 5 2 194 false := ⟨by decide, rfl, by decide +kernel, RX2, TBL_mk 488 (by decide +kernel) (by decide +kernel), Or.inl rfl⟩
theorem fX2_13 : FD RX2 13 3 TX2 5 3 195 false := ⟨by decide, rfl, by decide +kernel, RX2, TBL_mk 489 (by decide +kernel) (by decide +kernel), Or.inl rfl⟩
theorem fX9_333 : FD RX9 333 3 TX2 5 3 195 false := ⟨by decide, rfl, by decide +kernel, RX2, TBL_mk 490 (by decide +kernel) (by decide +kernel), Or.inl rfl⟩
theorem fX2_16 : FD RX2 16 3 TX2 5 4 196 false := ⟨by decide, rfl, by decide +kernel, RX2, TBL_mk 491 (by decide +kernel) (by decide +kernel), Or.inl rfl⟩
theorem fX9_272 : FD RX9 272 3 TX2 5 4 196 false := ⟨by decide, rfl, by decide +kernel, RX2, TBL_mk 492 (by decide +kernel) (by decide +kernel), Or.inl rfl⟩
theorem fX0_9 : FD RX0 9 1 TX0 3 0 64 true := ⟨by decide, rfl, by decide +kernel, RX0, TBL_mk 629 (by decide +kernel) (by decide +kernel), Or.inl rfl⟩
theorem fX9_319 : FD RX9 319 1 TX0 3 0 64 true := ⟨by decide, rfl, by decide +kernel, RX0, TBL_mk 630 (by decide +kernel) (by decide +kernel), Or.inl rfl⟩
theorem fX0_15 : FD RX0 15 1 TX0 3 1 65 false := ⟨by decide, rfl, by decide +kernel, RX0, TBL_mk 631 (by decide +kernel) (by decide +kernel), Or.inl rfl⟩
theorem fX9_316 : FD RX9 316 1 TX0 3 1 65 false := ⟨by decide, rfl, by decide +kernel, RX0, TBL_mk 632 (by decide +kernel) (by decide +kernel), Or.inl rfl⟩
theorem fX0_19 : FD RX0 19 1 TX0 3 2 66 false := ⟨by decide, rfl, by decide +kernel, RX0, TBL_mk 633 (by decide +kernel) (by decide +kernel), Or.inl rfl⟩
theorem fX9_313 : FD RX9 313 1 TX0 3 2 66 false := ⟨by decide, rfl, by decide +kernel, RX0, TBL_mk 634 (by decide +kernel) (by decide +kernel), Or.inl rfl⟩
theorem fX6_9 : FD RX6 9 7 TX6 4 0 448 false := ⟨by decide, rfl, by decide +kernel, RX6, TBL_mk 686 (by decide +kernel) (by decide +kernel), Or.inl rfl⟩
theorem fX6_15 : FD RX6 15 7 TX6 4 1 449 false := ⟨by decide, rfl, by decide +kernel, RX6, TBL_mk 687 (by decide +kernel) (by decide +kernel), Or.inl rfl⟩
theorem fX6_18 : FD RX6 18 7 TX6 4 2 450 false := ⟨by decide, rfl, by decide +kernel, RX6, TBL_mk 688 (by decide +kernel) (by decide +kernel), Or.inl rfl⟩
theorem fX6_21 : FD RX6 21 7 TX6 4 3 451 false := ⟨by decide, rfl, by decide +kernel, RX6, TBL_mk 689 (by decide +kernel) (by decide +kernel), Or.inl rfl⟩
theorem fX8_29 : FD RX8 29 9 TX8 5 0 576 false := ⟨by decide, rfl, by decide +kernel, RX8, TBL_mk 700 (by decide +kernel) (by decide +kernel), Or.inl rfl⟩
theorem fX8_9 : FD RX8 9 9 TX8 5 1 577 true := ⟨by decide, rfl, by decide +kernel, RX8, TBL_mk 701 (by decide +kernel) (by decide +kernel), Or.inl rfl⟩
theorem fX8_15 : FD RX8 15 9 TX8 5 2 578 false := ⟨by decide, rfl, by decide +kernel, RX8, TBL_mk 702 (by decide +kernel) (by decide +kernel), Or.inl rfl⟩
theorem fX9_204 : FD RX9 204 9 TX8 5 2 578 false := ⟨by decide, rfl, by decide +kernel, RX8, TBL_mk 703 (by decide +kernel) (by decide +kernel), Or.inl rfl⟩
theorem fX8_19 : FD RX8 19 9 TX8 5 3 579 false := ⟨by decide, rfl, by decide +kernel, RX8, TBL_mk 704 (by decide +kernel) (by decide +kernel), Or.inl rfl⟩
theorem fX9_209 : FD RX9 209 9 TX8 5 3 579 false := ⟨by decide, rfl, by decide +kernel, RX8, TBL_mk 705 (by decide +kernel) (by decide +kernel), Or.inl rfl⟩
theorem fX8_25 : FD RX8 25 9 TX8 5 4 580 true := ⟨by decide, rfl, by decide +kernel, RX8, TBL_mk 706 (by decide +kernel) (by decide +kernel), Or.inl rfl⟩
theorem fX4_101 : FD RX4 101 9 TX8 5 4 580 true := ⟨by decide, rfl, by decide +kernel, RX8, TBL_mk 707 (by decide +kernel) (by decide +kernel), Or.inl rfl⟩
theorem fX4_37 : FD RX4 37 5 TX4 14 0 320 true := ⟨by decide, rfl, by decide +kernel, RX4, TBL_mk 719 (by decide +kernel) (by decide +kernel), Or.inl rfl⟩
theorem fX9_186 : FD RX9 186 5 TX4 14 0 320 true := ⟨by decide, rfl, by decide +kernel, RX4, TBL_mk 720 (by decide +kernel) (by decide +kernel), Or.inl rfl⟩
theorem fX4_41 : FD RX4 41 5 TX4 14 1 321 true := ⟨by decide, rfl, by decide +kernel, RX4, TBL_mk 721 (by decide +kernel) (by decide +kernel), Or.inl rfl⟩
theorem fX9_179 : FD RX9 179 5 TX4 14 1 321 true := ⟨by decide, rfl, by decide +kernel, RX4, TBL_mk 722 (by decide +kernel) (by decide +kernel), Or.inl rfl⟩
theorem fX4_45 : FD RX4 45 5 TX4 14 2 322 true := ⟨by decide, rfl, by decide +kernel, RX4, TBL_mk 723 (by decide +kernel) (by decide +kernel), Or.inl rfl⟩
theorem fX9_340 : FD RX9 340 5 TX4 14 2 322 true := ⟨by decide, rfl, by decide +kernel, RX4, TBL_mk 724 (by decide +kernel) (by decide +kernel), Or.inl rfl⟩
theorem fX4_61 : FD RX4 61 5 TX4 14 3 323 true := ⟨by decide, rfl, by decide +kernel, RX4, TBL_mk 725 (by decide +kernel) (by decide +kernel), Or.inl rfl⟩
theorem fX4_67 : FD RX4 67 5 TX4 14 4 324 true := ⟨by decide, rfl, by decide +kernel, RX4, TBL_mk 726 (by decide +kernel) (by decide +kernel), Or.inl rfl⟩
theorem fX9_200 : FD RX9 200 5 TX4 14 4 324 true := ⟨by decide, rfl, by decide +kernel, RX4, TBL_mk 727 (by decide +kernel) (by decide +kernel), Or.inl rfl⟩
theorem fX4_9 : FD RX4 9 5 TX4 14 5 325 false := ⟨by decide, rfl, by decide +kernel, RX4, TBL_mk 728 (by decide +kernel) (by decide +kernel), Or.inl rfl⟩
theorem fX9_223 : FD RX9 223 5 TX4 14 5 325 false := ⟨by decide, rfl, by decide +kernel, RX4, TBL_mk 729 (by decide +kernel) (by decide +kernel), Or.inl rfl⟩
theorem fX4_15 : FD RX4 15 5 TX4 14 6 326 false := ⟨by decide, rfl, by decide +kernel, RX4, TBL_mk 730 (by decide +kernel) (by decide +kernel), Or.inl rfl⟩
theorem fX9_220 : FD RX9 220 5 TX4 14 6 326 false := ⟨by decide, rfl, by decide +kernel, RX4, TBL_mk 731 (by decide +kernel) (by decide +kernel), Or.inl rfl⟩
theorem fX4_18 : FD RX4 18 5 TX4 14 7 327 false := ⟨by decide, rfl, by decide +kernel, RX4, TBL_mk 732 (by decide +kernel) (by decide +kernel), Or.inl rfl⟩
theorem fX9_304 : FD RX9 304 5 TX4 14 7 327 false := ⟨by decide, rfl, by decide +kernel, RX4, TBL_mk 733 (by decide +kernel) (by decide +kernel), Or.inl rfl⟩
theorem fX4_74 : FD RX4 74 5 TX4 14 8 328 false := ⟨by decide, rfl, by decide +kernel, RX4, TBL_mk 734 (by decide +kernel) (by decide +kernel), Or.inl rfl⟩
theorem fX9_307 : FD RX9 307 5 TX4 14 8 328 false := ⟨by decide, rfl, by decide +kernel, RX4, TBL_mk 735 (by decide +kernel) (by decide +kernel), Or.inl rfl⟩
theorem fX4_21 : FD RX4 21 5 TX4 14 9 329 false := ⟨by decide, rfl, by decide +kernel, RX4, TBL_mk 736 (by decide +kernel) (by decide +kernel), Or.inl rfl⟩
theorem fX9_174 : FD RX9 174 5 TX4 14 9 329 false := ⟨by decide, rfl, by decide +kernel, RX4, TBL_mk 737 (by decide +kernel) (by decide +kernel), Or.inl rfl⟩
theorem fX4_25 : FD RX4 25 5 TX4 14 10 330 false := ⟨by decide, rfl, by decide +kernel, RX4, TBL_mk 738 (by decide +kernel) (by decide +kernel), Or.inl rfl⟩
theorem fX9_256 : FD RX9 256 5 TX4 14 10 330 false := ⟨by decide, rfl, by decide +kernel, RX4, TBL_mk 739 (by decide +kernel) (by decide +kernel), Or.inl rfl⟩
theorem fX4_28 : FD RX4 28 5 TX4 14 11 331 false := ⟨by decide, rfl, by decide +kernel, RX4, TBL_mk 740 (by decide +kernel) (by decide +kernel), Or.inl rfl⟩
theorem fX9_259 : FD RX9 259 5 TX4 14 11 331 false := ⟨by decide, rfl, by decide +kernel, RX4, TBL_mk 741 (by decide +kernel) (by decide +kernel), Or.inl rfl⟩
theorem fX4_31 : FD RX4 31 5 TX4 14 12 332 false := ⟨by decide, rfl, by decide +kernel, RX4, TBL_mk 742 (by decide +kernel) (by decide +kernel), Or.inl rfl⟩
theorem fX9_350 : FD RX9 350 5 TX4 14 12 332 false := ⟨by decide, rfl, by decide +kernel, RX4, TBL_mk 743 (by decide +kernel) (by decide +kernel), Or.inl rfl⟩
theorem fX4_34 : FD RX4 34 5 TX4 14 13 333 false := ⟨by decide, rfl, by decide +kernel, RX4, TBL_mk 744 (by decide +kernel) (by decide +kernel), Or.inl rfl⟩
theorem fX9_244 : FD RX9 244 5 TX4 14 13 333 false := ⟨by decide, rfl, by decide +kernel, RX4, TBL_mk 745 (by decide +kernel) (by decide +kernel), Or.inl rfl⟩
theorem fX10_138 : FD RX10 138 11 TX10 50 0 704 false := ⟨by decide, rfl, by decide +kernel, RX10, TBL_mk 974 (by decide +kernel) (by decide +kernel), Or.inl rfl⟩
theorem fX10_188 : FD RX10 188 11 TX10 50 1 705 false := ⟨by decide, rfl, by decide +kernel, RX10, TBL_mk 975 (by decide +kernel) (by decide +kernel), Or.inl rfl⟩
theorem fX10_248 : FD RX10 248 11 TX10 50 2 706 false := ⟨by decide, rfl, by decide +kernel, RX10, TBL_mk 976 (by decide +kernel) (by decide +kernel), Or.inl rfl⟩
theorem fX10_7 : FD RX10 7 11 TX10 50 3 707 false := ⟨by decide, rfl, by decide +kernel, RX10, TBL_mk 977 (by decide +kernel) (by decide +kernel), Or.inl rfl⟩
theorem fX10_175 : FD RX10 175 11 TX10 50 4 708 false := ⟨by decide, rfl, by decide +kernel, RX10, TBL_mk 978 (by decide +kernel) (by decide +kernel), Or.inl rfl⟩
theorem fX10_13 : FD RX10 13 11 TX10 50 5 709 false := ⟨by decide, rfl, by decide +kernel, RX10, TBL_mk 979 (by decide +kernel) (by decide +kernel), Or.inl rfl⟩
theorem fX10_145 : FD RX10 145 11 TX10 50 6 710 false := ⟨by decide, rfl, by decide +kernel, RX10, TBL_mk 980 (by decide +kernel) (by decide +kernel), Or.inl rfl⟩
theorem fX10_16 : FD RX10 16 11 TX10 50 7 711 true := ⟨by decide, rfl, by decide +kernel, RX10, TBL_mk 981 (by decide +kernel) (by decide +kernel), Or.inl rfl⟩
theorem fX10_20 : FD RX10 20 11 TX10 50 8 712 true := ⟨by decide, rfl, by decide +kernel, RX10, TBL_mk 982 (by decide +kernel) (by decide +kernel), Or.inl rfl⟩
theorem fX10_23 : FD RX10 23 11 TX10 50 9 713 true := ⟨by decide, rfl, by decide +kernel, RX10, TBL_mk 983 (by decide +kernel) (by decide +kernel), Or.inl rfl⟩
theorem fX10_27 : FD RX10 27 11 TX10 50 10 714 true := ⟨by decide, rfl, by decide +kernel, RX10, TBL_mk 984 (by decide +kernel) (by decide +kernel), Or.inl rfl⟩
theorem fX10_30 : FD RX10 30 11 TX10 50 11 715 true := ⟨by decide, rfl, by decide +kernel, RX10, TBL_mk 985 (by decide +kernel) (by decide +kernel), Or.inl rfl⟩
theorem fX10_33 : FD RX10 33 11 TX10 50 12 716 true := ⟨by decide, rfl, by decide +kernel, RX10, TBL_mk 986 (by decide +kernel) (by decide +kernel), Or.inl rfl⟩
theorem fX10_164 : FD RX10 164 11 TX10 50 13 717 false := ⟨by decide, rfl, by decide +kernel, RX10, TBL_mk 987 (by decide +kernel) (by decide +kernel), Or.inl rfl⟩
theorem fX10_36 : FD RX10 36 11 TX10 50 14 718 true := ⟨by decide, rfl, by decide +kernel, RX10, TBL_mk 988 (by decide +kernel) (by decide +kernel), Or.inl rfl⟩
theorem fX10_39 : FD RX10 39 11 TX10 50 15 719 true := ⟨by decide, rfl, by decide +kernel, RX10, TBL_mk 989 (by decide +kernel) (by decide +kernel), Or.inl rfl⟩
theorem fX10_42 : FD RX10 42 11 TX10 50 16 720 true := ⟨by decide, rfl, by decide +kernel, RX10, TBL_mk 990 (by decide +kernel) (by decide +kernel), Or.inl rfl⟩
theorem fX10_148 : FD RX10 148 11 TX10 50 17 721 false := ⟨by decide, rfl, by decide +kernel, RX10, TBL_mk 991 (by decide +kernel) (by decide +kernel), Or.inl rfl⟩
theorem fX10_45 : FD RX10 45 11 TX10 50 18 722 true := ⟨by decide, rfl, by decide +kernel, RX10, TBL_mk 992 (by decide +kernel) (by decide +kernel), Or.inl rfl⟩
theorem fX10_48 : FD RX10 48 11 TX10 50 19 723 true := ⟨by decide, rfl, by decide +kernel, RX10, TBL_mk 993 (by decide +kernel) (by decide +kernel), Or.inl rfl⟩
theorem fX10_51 : FD RX10 51 11 TX10 50 20 724 true := ⟨by decide, rfl, by decide +kernel, RX10, TBL_mk 994 (by decide +kernel) (by decide +kernel), Or.inl rfl⟩
theorem fX10_54 : FD RX10 54 11 TX10 50 21 725 true := ⟨by decide, rfl, by decide +kernel, RX10, TBL_mk 995 (by decide +kernel) (by decide +kernel), Or.inl rfl⟩
theorem fX10_57 : FD RX10 57 11 TX10 50 22 726 true := ⟨by decide, rfl, by decide +kernel, RX10, TBL_mk 996 (by decide +kernel) (by decide +kernel), Or.inl rfl⟩
theorem fX10_60 : FD RX10 60 11 TX10 50 23 727 true := ⟨by decide, rfl, by decide +kernel, RX10, TBL_mk 997 (by decide +kernel) (by decide +kernel), Or.inl rfl⟩
theorem fX10_63 : FD RX10 63 11 TX10 50 24 728 true := ⟨by decide, rfl, by decide +kernel, RX10, TBL_mk 998 (by decide +kernel) (by decide +kernel), Or.inl rfl⟩
theorem fX10_66 : FD RX10 66 11 TX10 50 25 729 true := ⟨by decide, rfl, by decide +kernel, RX10, TBL_mk 999 (by decide +kernel) (by decide +kernel), Or.inl rfl⟩
theorem fX10_69 : FD RX10 69 11 TX10 50 26 730 true := ⟨by decide, rfl, by decide +kernel, RX10, TBL_mk 1000 (by decide +kernel) (by decide +kernel), Or.inl rfl⟩
theorem fX10_72 : FD RX10 72 11 TX10 50 27 731 true := ⟨by decide, rfl, by decide +kernel, RX10, TBL_mk 1001 (by decide +kernel) (by decide +kernel), Or.inl rfl⟩
theorem fX10_75 : FD RX10 75 11 TX10 50 28 732 true := ⟨by decide, rfl, by decide +kernel, RX10, TBL_mk 1002 (by decide +kernel) (by decide +kernel), Or.inl rfl⟩
theorem fX10_78 : FD RX10 78 11 TX10 50 29 733 true := ⟨by decide, rfl, by decide +kernel, RX10, TBL_mk 1003 (by decide +kernel) (by decide +kernel), Or.inl rfl⟩
theorem fX10_151 : FD RX10 151 11 TX10 50 30 734 false := ⟨by decide, rfl, by decide +kernel, RX10, TBL_mk 1004 (by decide +kernel) (by decide +kernel), Or.inl rfl⟩
theorem fX10_81 : FD RX10 81 11 TX10 50 31 735 true := ⟨by decide, rfl, by decide +kernel, RX10, TBL_mk 1005 (by decide +kernel) (by decide +kernel), Or.inl rfl⟩
theorem fX10_84 : FD RX10 84 11 TX10 50 32 736 true := ⟨by decide, rfl, by decide +kernel, RX10, TBL_mk 1006 (by decide +kernel) (by decide +kernel), Or.inl rfl⟩
theorem fX10_87 : FD RX10 87 11 TX10 50 33 737 true := ⟨by decide, rfl, by decide +kernel, RX10, TBL_mk 1007 (by decide +kernel) (by decide +kernel), Or.inl rfl⟩
theorem fX10_90 : FD RX10 90 11 TX10 50 34 738 true := ⟨by decide, rfl, by decide +kernel, RX10, TBL_mk 1008 (by decide +kernel) (by decide +kernel), Or.inl rfl⟩
theorem fX10_93 : FD RX10 93 11 TX10 50 35 739 true := ⟨by decide, rfl, by decide +kernel, RX10, TBL_mk 1009 (by decide +kernel) (by decide +kernel), Or.inl rfl⟩
theorem fX10_96 : FD RX10 96 11 TX10 50 36 740 true := ⟨by decide, rfl, by decide +kernel, RX10, TBL_mk 1010 (by decide +kernel) (by decide +kernel), Or.inl rfl⟩
theorem fX10_99 : FD RX10 99 11 TX10 50 37 741 true := ⟨by decide, rfl, by decide +kernel, RX10, TBL_mk 1011 (by decide +kernel) (by decide +kernel), Or.inl rfl⟩
theorem fX10_102 : FD RX10 102 11 TX10 50 38 742 true := ⟨by decide, rfl, by decide +kernel, RX10, TBL_mk 1012 (by decide +kernel) (by decide +kernel), Or.inl rfl⟩
theorem fX10_105 : FD RX10 105 11 TX10 50 39 743 true := ⟨by decide, rfl, by decide +kernel, RX10, TBL_mk 1013 (by decide +kernel) (by decide +kernel), Or.inl rfl⟩
theorem fX10_108 : FD RX10 108 11 TX10 50 40 744 true := ⟨by decide, rfl, by decide +kernel, RX10, TBL_mk 1014 (by decide +kernel) (by decide +kernel), Or.inl rfl⟩
theorem fX10_111 : FD RX10 111 11 TX10 50 41 745 true := ⟨by decide, rfl, by decide +kernel, RX10, TBL_mk 1015 (by decide +kernel) (by decide +kernel), Or.inl rfl⟩
theorem fX10_114 : FD RX10 114 11 TX10 50 42 746 true := ⟨by decide, rfl, by decide +kernel, RX10, TBL_mk 1016 (by decide +kernel) (by decide +kernel), Or.inl rfl⟩
theorem fX10_117 : FD RX10 117 11 TX10 50 43 747 true := ⟨by decide, rfl, by decide +kernel, RX10, TBL_mk 1017 (by decide +kernel) (by decide +kernel), Or.inl rfl⟩
theorem fX10_120 : FD RX10 120 11 TX10 50 44 748 true := ⟨by decide, rfl, by decide +kernel, RX10, TBL_mk 1018 (by decide +kernel) (by decide +kernel), Or.inl rfl⟩
theorem fX10_123 : FD RX10 123 11 TX10 50 45 749 true := ⟨by decide, rfl, by decide +kernel, RX10, TBL_mk 1019 (by decide +kernel) (by decide +kernel), Or.inl rfl⟩
theorem fX10_126 : FD RX10 126 11 TX10 50 46 750 true := ⟨by decide, rfl, by decide +kernel, RX10, TBL_mk 1020 (by decide +kernel) (by decide +kernel), Or.inl rfl⟩
theorem fX10_129 : FD RX10 129 11 TX10 50 47 751 true := ⟨by decide, rfl, by decide +kernel, RX10, TBL_mk 1021 (by decide +kernel) (by decide +kernel), Or.inl rfl⟩
theorem fX10_132 : FD RX10 132 11 TX10 50 48 752 true := ⟨by decide, rfl, by decide +kernel, RX10, TBL_mk 1022 (by decide +kernel) (by decide +kernel), Or.inl rfl⟩
theorem fX10_135 : FD RX10 135 11 TX10 50 49 753 true := ⟨by decide, rfl, by decide +kernel, RX10, TBL_mk 1023 (by decide +kernel) (by decide +kernel), Or.inl rfl⟩
theorem fJxc12de_7 : FD RJxc12de 7 0 TJx4a65c 3 0 0 false := ⟨by decide, rfl, by decide +kernel, RJxc12de, TBL_mk 103 (by decide +kernel) (by decide +kernel), Or.inl rfl⟩
theorem kL_85 : KI RL 85 yX9_init cX9_init 2 0 := ⟨TBL_mk 81 (by decide +kernel) (by decide +kernel), TBL_mk 82 (by decide +kernel) (by decide +kernel), rfl, TBL_mk 53 (by decide +kernel) (by decide +kernel), TBL_mk 83 (by decide +kernel) (by decide +kernel), by decide +kernel, by decide +kernel, by decide +kernel⟩
theorem kX9_9 : KI RX9 9 yJx4a65c_init_da8c8 cJx4a65c_init_da8c8 1 0 := ⟨TBL_mk 89 (by decide +kernel) (by decide +kernel), TBL_mk 90 (by decide +kernel) (by decide +kernel), rfl, TBL_mk 56 (by decide +kernel) (by decide +kernel), TBL_mk 91 (by decide +kernel) (by decide +kernel), by decide +kernel, by decide +kernel, by decide +kernel⟩
theorem kJx4a65c_1 : KI RJx4a65c 1 yJxc12de_init_da8c8 cJxc12de_init_da8c8 1 0 := ⟨TBL_mk 92 (by decide +kernel) (by decide +kernel), TBL_mk 93 (by decide +kernel) (by decide +kernel), rfl, TBL_mk 55 (by decide +kernel) (by decide +kernel), TBL_mk 94 (by decide +kernel) (by decide +kernel), by decide +kernel, by decide +kernel, by decide +kernel⟩
theorem kJxc12de_1 : KI RJxc12de 1 yJxa1e45_init_da8c8 cJxa1e45_init_da8c8 1 0 := ⟨TBL_mk 95 (by decide +kernel) (by decide +kernel), TBL_mk 96 (by decide +kernel) (by decide +kernel), rfl, TBL_mk 54 (by decide +kernel) (by decide +kernel), TBL_mk 97 (by decide +kernel) (by decide +kernel), by decide +kernel, by decide +kernel, by decide +kernel⟩
theorem kX3_9 : KI RX3 9 yX7_init cX7_init 5 4 := ⟨TBL_mk 121 (by decide +kernel) (by decide +kernel), TBL_mk 122 (by decide +kernel) (by decide +kernel), rfl, TBL_mk 58 (by decide +kernel) (by decide +kernel), TBL_mk 123 (by decide +kernel) (by decide +kernel), by decide +kernel, by decide +kernel, by decide +kernel⟩
theorem kX9_50 : KV RX9 50 0 yJx4a65c_add_9ea2d cJx4a65c_add_9ea2d 2 (some FieldType.boolean) 1 := ⟨⟨_, _, rfl, by decide⟩, TBL_mk 152 (by decide +kernel) (by decide +kernel), TBL_mk 153 (by decide +kernel) (by decide +kernel), TBL_mk 154 (by decide +kernel) (by decide +kernel), TBL_mk 56 (by decide +kernel) (by decide +kernel), TBL_mk 155 (by decide +kernel) (by decide +kernel), by decide +kernel, by decide +kernel, by decide +kernel⟩
theorem kJx4a65c_131 : KV RJx4a65c 131 0 yJx4a65c_add_72be8 cJx4a65c_add_72be8 4 none 3 := ⟨⟨_, _, rfl, by decide⟩, TBL_mk 156 (by decide +kernel) (by decide +kernel), TBL_mk 158 (by decide +kernel) (by decide +kernel), TBL_mk 0 (by decide +kernel) (by decide +kernel), TBL_mk 56 (by decide +kernel) (by decide +kernel), TBL_mk 159 (by decide +kernel) (by decide +kernel), by decide +kernel, by decide +kernel, by decide +kernel⟩
theorem kJx4a65c_129 : KV RJx4a65c 129 0 yJx4a65c_grow_d5877 cJx4a65c_grow_d5877 1 (some (FieldType.array (FieldType.object "java/lang/Object"))) 0 := ⟨⟨_, _, rfl, by decide⟩, TBL_mk 160 (by decide +kernel) (by decide +kernel), TBL_mk 162 (by decide +kernel) (by decide +kernel), TBL_mk 1 (by decide +kernel) (by decide +kernel), TBL_mk 56 (by decide +kernel) (by decide +kernel), TBL_mk 163 (by decide +kernel) (by decide +kernel), by decide +kernel, by decide +kernel, by decide +kernel⟩
theorem kJx4a65c_69 : KV RJx4a65c 69 0 yJx4a65c_grow_92f84 cJx4a65c_grow_92f84 4 (some (FieldType.array (FieldType.object "java/lang/Object"))) 1 := ⟨⟨_, _, rfl, by decide⟩, TBL_mk 164 (by decide +kernel) (by decide +kernel), TBL_mk 166 (by decide +kernel) (by decide +kernel), TBL_mk 2 (by decide +kernel) (by decide +kernel), TBL_mk 56 (by decide +kernel) (by decide +kernel), TBL_mk 167 (by decide +kernel) (by decide +kernel), by decide +kernel, by decide +kernel, by decide +kernel⟩
theorem kJx4a65c_73 : KS RJx4a65c 73 yJ8_newLength_cabcc cJ8_newLength_cabcc 4 (some FieldType.int) 3 := ⟨TBL_mk 168 (by decide +kernel) (by decide +kernel), TBL_mk 169 (by decide +kernel) (by decide +kernel), TBL_mk 59 (by decide +kernel) (by decide +kernel), TBL_mk 170 (by decide +kernel) (by decide +kernel), by decide +kernel, by decide +kernel, by decide +kernel⟩
theorem kJ8_194 : KS RJ8 194 yJ9_max_7cf53 cJ9_max_7cf53 2 (some FieldType.int) 2 := ⟨TBL_mk 171 (by decide +kernel) (by decide +kernel), TBL_mk 172 (by decide +kernel) (by decide +kernel), TBL_mk 60 (by decide +kernel) (by decide +kernel), TBL_mk 173 (by decide +kernel) (by decide +kernel), by decide +kernel, by decide +kernel, by decide +kernel⟩
theorem kJ8_201 : KS RJ8 201 yJ8_hugeLength_7cf53 cJ8_hugeLength_7cf53 3 (some FieldType.int) 2 := ⟨TBL_mk 175 (by decide +kernel) (by decide +kernel), TBL_mk 176 (by decide +kernel) (by decide +kernel), TBL_mk 59 (by decide +kernel) (by decide +kernel), TBL_mk 177 (by decide +kernel) (by decide +kernel), by decide +kernel, by decide +kernel, by decide +kernel⟩
theorem kJx4a65c_66 : KS RJx4a65c 66 yJ7_copyOf_1904c cJ7_copyOf_1904c 2 (some (FieldType.array (FieldType.object "java/lang/Object"))) 2 := ⟨TBL_mk 178 (by decide +kernel) (by decide +kernel), TBL_mk 179 (by decide +kernel) (by decide +kernel), TBL_mk 61 (by decide +kernel) (by decide +kernel), TBL_mk 180 (by decide +kernel) (by decide +kernel), by decide +kernel, by decide +kernel, by decide +kernel⟩
theorem kJ7_300 : KS RJ7 300 yJ7_copyOf_6403c cJ7_copyOf_6403c 4 (some (FieldType.array (FieldType.object "java/lang/Object"))) 3 := ⟨TBL_mk 200 (by decide +kernel) (by decide +kernel), TBL_mk 201 (by decide +kernel) (by decide +kernel), TBL_mk 61 (by decide +kernel) (by decide +kernel), TBL_mk 202 (by decide +kernel) (by decide +kernel), by decide +kernel, by decide +kernel, by decide +kernel⟩
theorem kJ7_304 : KS RJ7 304 yJ9_min_7cf53 cJ9_min_7cf53 2 (some FieldType.int) 2 := ⟨TBL_mk 206 (by decide +kernel) (by decide +kernel), TBL_mk 207 (by decide +kernel) (by decide +kernel), TBL_mk 60 (by decide +kernel) (by decide +kernel), TBL_mk 208 (by decide +kernel) (by decide +kernel), by decide +kernel, by decide +kernel, by decide +kernel⟩
theorem kJx4a65c_79 : KS RJx4a65c 79 yJ9_max_7cf53 cJ9_max_7cf53 2 (some FieldType.int) 2 := ⟨TBL_mk 212 (by decide +kernel) (by decide +kernel), TBL_mk 172 (by decide +kernel) (by decide +kernel), TBL_mk 60 (by decide +kernel) (by decide +kernel), TBL_mk 173 (by decide +kernel) (by decide +kernel), by decide +kernel, by decide +kernel, by decide +kernel⟩
theorem kL_149 : KV RL 149 10 yX9_overloads cX9_overloads 1 (some FieldType.int) 0 := ⟨⟨_, _, rfl, by decide⟩, TBL_mk 248 (by decide +kernel) (by decide +kernel), TBL_mk 249 (by decide +kernel) (by decide +kernel), TBL_mk 250 (by decide +kernel) (by decide +kernel), TBL_mk 53 (by decide +kernel) (by decide +kernel), TBL_mk 251 (by decide +kernel) (by decide +kernel), by decide +kernel, by decide +kernel, by decide +kernel⟩
theorem kL_7 : KV RL 7 10 yX9_socket cX9_socket 5 (some FieldType.int) 2 := ⟨⟨_, _, rfl, by decide⟩, TBL_mk 258 (by decide +kernel) (by decide +kernel), TBL_mk 259 (by decide +kernel) (by decide +kernel), TBL_mk 260 (by decide +kernel) (by decide +kernel), TBL_mk 53 (by decide +kernel) (by decide +kernel), TBL_mk 261 (by decide +kernel) (by decide +kernel), by decide +kernel, by decide +kernel, by decide +kernel⟩
theorem kX9_54 : KV RX9 54 10 yX9_firmAt cX9_firmAt 2 (some (FieldType.object "ChargeYard$Firm")) 1 := ⟨⟨_, _, rfl, by decide⟩, TBL_mk 262 (by decide +kernel) (by decide +kernel), TBL_mk 264 (by decide +kernel) (by decide +kernel), TBL_mk 3 (by decide +kernel) (by decide +kernel), TBL_mk 53 (by decide +kernel) (by decide +kernel), TBL_mk 265 (by decide +kernel) (by decide +kernel), by decide +kernel, by decide +kernel, by decide +kernel⟩
theorem kX9_63 : KV RX9 63 0 yJx4a65c_size_8abf5 cJx4a65c_size_8abf5 1 (some FieldType.int) 0 := ⟨⟨_, _, rfl, by decide⟩, TBL_mk 266 (by decide +kernel) (by decide +kernel), TBL_mk 267 (by decide +kernel) (by decide +kernel), TBL_mk 268 (by decide +kernel) (by decide +kernel), TBL_mk 56 (by decide +kernel) (by decide +kernel), TBL_mk 269 (by decide +kernel) (by decide +kernel), by decide +kernel, by decide +kernel, by decide +kernel⟩
theorem kX9_283 : KV RX9 283 0 yJx4a65c_get_915e3 cJx4a65c_get_915e3 2 (some (FieldType.object "java/lang/Object")) 1 := ⟨⟨_, _, rfl, by decide⟩, TBL_mk 338 (by decide +kernel) (by decide +kernel), TBL_mk 339 (by decide +kernel) (by decide +kernel), TBL_mk 340 (by decide +kernel) (by decide +kernel), TBL_mk 56 (by decide +kernel) (by decide +kernel), TBL_mk 341 (by decide +kernel) (by decide +kernel), by decide +kernel, by decide +kernel, by decide +kernel⟩
theorem kJx4a65c_118 : KS RJx4a65c 118 yJ15_checkIndex_7cf53 cJ15_checkIndex_7cf53 2 (some FieldType.int) 2 := ⟨TBL_mk 342 (by decide +kernel) (by decide +kernel), TBL_mk 343 (by decide +kernel) (by decide +kernel), TBL_mk 68 (by decide +kernel) (by decide +kernel), TBL_mk 344 (by decide +kernel) (by decide +kernel), by decide +kernel, by decide +kernel, by decide +kernel⟩
theorem kJ15_105 : KS RJ15 105 yJ3_checkIndex_8e157 cJ3_checkIndex_8e157 3 (some FieldType.int) 3 := ⟨TBL_mk 345 (by decide +kernel) (by decide +kernel), TBL_mk 346 (by decide +kernel) (by decide +kernel), TBL_mk 69 (by decide +kernel) (by decide +kernel), TBL_mk 347 (by decide +kernel) (by decide +kernel), by decide +kernel, by decide +kernel, by decide +kernel⟩
theorem kJx4a65c_123 : KV RJx4a65c 123 0 yJx4a65c_elementData_915e3 cJx4a65c_elementData_915e3 2 (some (FieldType.object "java/lang/Object")) 1 := ⟨⟨_, _, rfl, by decide⟩, TBL_mk 348 (by decide +kernel) (by decide +kernel), TBL_mk 349 (by decide +kernel) (by decide +kernel), TBL_mk 350 (by decide +kernel) (by decide +kernel), TBL_mk 56 (by decide +kernel) (by decide +kernel), TBL_mk 351 (by decide +kernel) (by decide +kernel), by decide +kernel, by decide +kernel, by decide +kernel⟩
theorem kX9_59 : KS RX9 59 yX9_needWithin cX9_needWithin 3 none 3 := ⟨TBL_mk 353 (by decide +kernel) (by decide +kernel), TBL_mk 354 (by decide +kernel) (by decide +kernel), TBL_mk 53 (by decide +kernel) (by decide +kernel), TBL_mk 355 (by decide +kernel) (by decide +kernel), by decide +kernel, by decide +kernel, by decide +kernel⟩
theorem kX9_67 : KS RX9 67 yX9_needRoom cX9_needRoom 2 none 2 := ⟨TBL_mk 372 (by decide +kernel) (by decide +kernel), TBL_mk 373 (by decide +kernel) (by decide +kernel), TBL_mk 53 (by decide +kernel) (by decide +kernel), TBL_mk 374 (by decide +kernel) (by decide +kernel), by decide +kernel, by decide +kernel, by decide +kernel⟩
theorem kX9_73 : KI RX9 73 yX5_init cX5_init 4 3 := ⟨TBL_mk 393 (by decide +kernel) (by decide +kernel), TBL_mk 394 (by decide +kernel) (by decide +kernel), rfl, TBL_mk 72 (by decide +kernel) (by decide +kernel), TBL_mk 395 (by decide +kernel) (by decide +kernel), by decide +kernel, by decide +kernel, by decide +kernel⟩
theorem kX5_26 : KI RX5 26 yJx4a65c_init_da8c8 cJx4a65c_init_da8c8 1 0 := ⟨TBL_mk 398 (by decide +kernel) (by decide +kernel), TBL_mk 90 (by decide +kernel) (by decide +kernel), rfl, TBL_mk 56 (by decide +kernel) (by decide +kernel), TBL_mk 91 (by decide +kernel) (by decide +kernel), by decide +kernel, by decide +kernel, by decide +kernel⟩
theorem kL_19 : KV RL 19 10 yX9_car cX9_car 5 (some FieldType.int) 3 := ⟨⟨_, _, rfl, by decide⟩, TBL_mk 439 (by decide +kernel) (by decide +kernel), TBL_mk 440 (by decide +kernel) (by decide +kernel), TBL_mk 441 (by decide +kernel) (by decide +kernel), TBL_mk 53 (by decide +kernel) (by decide +kernel), TBL_mk 442 (by decide +kernel) (by decide +kernel), by decide +kernel, by decide +kernel, by decide +kernel⟩
theorem kX9_82 : KI RX9 82 yX1_init cX1_init 5 4 := ⟨TBL_mk 446 (by decide +kernel) (by decide +kernel), TBL_mk 447 (by decide +kernel) (by decide +kernel), rfl, TBL_mk 73 (by decide +kernel) (by decide +kernel), TBL_mk 448 (by decide +kernel) (by decide +kernel), by decide +kernel, by decide +kernel, by decide +kernel⟩
theorem kL_23 : KV RL 23 10 yX9_card cX9_card 4 (some FieldType.int) 2 := ⟨⟨_, _, rfl, by decide⟩, TBL_mk 472 (by decide +kernel) (by decide +kernel), TBL_mk 473 (by decide +kernel) (by decide +kernel), TBL_mk 474 (by decide +kernel) (by decide +kernel), TBL_mk 53 (by decide +kernel) (by decide +kernel), TBL_mk 475 (by decide +kernel) (by decide +kernel), by decide +kernel, by decide +kernel, by decide +kernel⟩
theorem kX9_88 : KI RX9 88 yX2_init cX2_init 3 2 := ⟨TBL_mk 478 (by decide +kernel) (by decide +kernel), TBL_mk 479 (by decide +kernel) (by decide +kernel), rfl, TBL_mk 74 (by decide +kernel) (by decide +kernel), TBL_mk 480 (by decide +kernel) (by decide +kernel), by decide +kernel, by decide +kernel, by decide +kernel⟩
theorem kL_26 : KV RL 26 10 yX9_good cX9_good 5 (some FieldType.boolean) 2 := ⟨⟨_, _, rfl, by decide⟩, TBL_mk 507 (by decide +kernel) (by decide +kernel), TBL_mk 508 (by decide +kernel) (by decide +kernel), TBL_mk 509 (by decide +kernel) (by decide +kernel), TBL_mk 53 (by decide +kernel) (by decide +kernel), TBL_mk 510 (by decide +kernel) (by decide +kernel), by decide +kernel, by decide +kernel, by decide +kernel⟩
theorem kX9_91 : KV RX9 91 10 yX9_cardAt cX9_cardAt 2 (some (FieldType.object "ChargeYard$Card")) 1 := ⟨⟨_, _, rfl, by decide⟩, TBL_mk 511 (by decide +kernel) (by decide +kernel), TBL_mk 513 (by decide +kernel) (by decide +kernel), TBL_mk 5 (by decide +kernel) (by decide +kernel), TBL_mk 53 (by decide +kernel) (by decide +kernel), TBL_mk 514 (by decide +kernel) (by decide +kernel), by decide +kernel, by decide +kernel, by decide +kernel⟩
theorem kL_30 : KV RL 30 10 yX9_set cX9_set 3 (some FieldType.int) 2 := ⟨⟨_, _, rfl, by decide⟩, TBL_mk 519 (by decide +kernel) (by decide +kernel), TBL_mk 520 (by decide +kernel) (by decide +kernel), TBL_mk 521 (by decide +kernel) (by decide +kernel), TBL_mk 53 (by decide +kernel) (by decide +kernel), TBL_mk 522 (by decide +kernel) (by decide +kernel), by decide +kernel, by decide +kernel, by decide +kernel⟩
theorem kX9_99 : KV RX9 99 10 yX9_setLimit cX9_setLimit 3 (some FieldType.int) 1 := ⟨⟨_, _, rfl, by decide⟩, TBL_mk 523 (by decide +kernel) (by decide +kernel), TBL_mk 525 (by decide +kernel) (by decide +kernel), TBL_mk 6 (by decide +kernel) (by decide +kernel), TBL_mk 53 (by decide +kernel) (by decide +kernel), TBL_mk 526 (by decide +kernel) (by decide +kernel), by decide +kernel, by decide +kernel, by decide +kernel⟩
theorem kX9_103 : KV RX9 103 10 yX9_setSun cX9_setSun 3 (some FieldType.int) 1 := ⟨⟨_, _, rfl, by decide⟩, TBL_mk 528 (by decide +kernel) (by decide +kernel), TBL_mk 530 (by decide +kernel) (by decide +kernel), TBL_mk 7 (by decide +kernel) (by decide +kernel), TBL_mk 53 (by decide +kernel) (by decide +kernel), TBL_mk 531 (by decide +kernel) (by decide +kernel), by decide +kernel, by decide +kernel, by decide +kernel⟩
theorem kX9_106 : KV RX9 106 10 yX9_setDegrees cX9_setDegrees 3 (some FieldType.int) 1 := ⟨⟨_, _, rfl, by decide⟩, TBL_mk 533 (by decide +kernel) (by decide +kernel), TBL_mk 535 (by decide +kernel) (by decide +kernel), TBL_mk 8 (by decide +kernel) (by decide +kernel), TBL_mk 53 (by decide +kernel) (by decide +kernel), TBL_mk 536 (by decide +kernel) (by decide +kernel), by decide +kernel, by decide +kernel, by decide +kernel⟩
theorem kL_33 : KV RL 33 10 yX9_fault cX9_fault 5 (some FieldType.boolean) 2 := ⟨⟨_, _, rfl, by decide⟩, TBL_mk 540 (by decide +kernel) (by decide +kernel), TBL_mk 541 (by decide +kernel) (by decide +kernel), TBL_mk 542 (by decide +kernel) (by decide +kernel), TBL_mk 53 (by decide +kernel) (by decide +kernel), TBL_mk 543 (by decide +kernel) (by decide +kernel), by decide +kernel, by decide +kernel, by decide +kernel⟩
theorem kX9_109 : KV RX9 109 10 yX9_socketAt cX9_socketAt 2 (some (FieldType.object "ChargeYard$Socket")) 1 := ⟨⟨_, _, rfl, by decide⟩, TBL_mk 544 (by decide +kernel) (by decide +kernel), TBL_mk 546 (by decide +kernel) (by decide +kernel), TBL_mk 9 (by decide +kernel) (by decide +kernel), TBL_mk 53 (by decide +kernel) (by decide +kernel), TBL_mk 547 (by decide +kernel) (by decide +kernel), by decide +kernel, by decide +kernel, by decide +kernel⟩
theorem kL_36 : KV RL 36 10 yX9_link cX9_link 4 (some FieldType.int) 2 := ⟨⟨_, _, rfl, by decide⟩, TBL_mk 552 (by decide +kernel) (by decide +kernel), TBL_mk 553 (by decide +kernel) (by decide +kernel), TBL_mk 554 (by decide +kernel) (by decide +kernel), TBL_mk 53 (by decide +kernel) (by decide +kernel), TBL_mk 555 (by decide +kernel) (by decide +kernel), by decide +kernel, by decide +kernel, by decide +kernel⟩
theorem kX9_119 : KV RX9 119 10 yX9_hearWaiting cX9_hearWaiting 5 (some FieldType.int) 1 := ⟨⟨_, _, rfl, by decide⟩, TBL_mk 556 (by decide +kernel) (by decide +kernel), TBL_mk 558 (by decide +kernel) (by decide +kernel), TBL_mk 10 (by decide +kernel) (by decide +kernel), TBL_mk 53 (by decide +kernel) (by decide +kernel), TBL_mk 559 (by decide +kernel) (by decide +kernel), by decide +kernel, by decide +kernel, by decide +kernel⟩
theorem kX9_310 : KV RX9 310 9 yX8_hearAll cX8_hearAll 2 (some FieldType.int) 0 := ⟨⟨_, _, rfl, by decide⟩, TBL_mk 561 (by decide +kernel) (by decide +kernel), TBL_mk 562 (by decide +kernel) (by decide +kernel), TBL_mk 563 (by decide +kernel) (by decide +kernel), TBL_mk 77 (by decide +kernel) (by decide +kernel), TBL_mk 564 (by decide +kernel) (by decide +kernel), by decide +kernel, by decide +kernel, by decide +kernel⟩
theorem kX8_44 : KV RX8 44 9 yX8_takeInto cX8_takeInto 4 none 2 := ⟨⟨_, _, rfl, by decide⟩, TBL_mk 565 (by decide +kernel) (by decide +kernel), TBL_mk 567 (by decide +kernel) (by decide +kernel), TBL_mk 11 (by decide +kernel) (by decide +kernel), TBL_mk 77 (by decide +kernel) (by decide +kernel), TBL_mk 569 (by decide +kernel) (by decide +kernel), by decide +kernel, by decide +kernel, by decide +kernel⟩
theorem kX8_48 : KS RX8 48 yJ9_max_7cf53 cJ9_max_7cf53 2 (some FieldType.int) 2 := ⟨TBL_mk 570 (by decide +kernel) (by decide +kernel), TBL_mk 172 (by decide +kernel) (by decide +kernel), TBL_mk 60 (by decide +kernel) (by decide +kernel), TBL_mk 173 (by decide +kernel) (by decide +kernel), by decide +kernel, by decide +kernel, by decide +kernel⟩
theorem kX8_51 : KV RX8 51 7 yX6_take cX6_take 6 none 3 := ⟨⟨_, _, rfl, by decide⟩, TBL_mk 571 (by decide +kernel) (by decide +kernel), TBL_mk 572 (by decide +kernel) (by decide +kernel), TBL_mk 573 (by decide +kernel) (by decide +kernel), TBL_mk 78 (by decide +kernel) (by decide +kernel), TBL_mk 574 (by decide +kernel) (by decide +kernel), by decide +kernel, by decide +kernel, by decide +kernel⟩
theorem kX9_197 : KS RX9 197 yX9_settleIfDue cX9_settleIfDue 3 none 1 := ⟨TBL_mk 575 (by decide +kernel) (by decide +kernel), TBL_mk 576 (by decide +kernel) (by decide +kernel), TBL_mk 53 (by decide +kernel) (by decide +kernel), TBL_mk 577 (by decide +kernel) (by decide +kernel), by decide +kernel, by decide +kernel, by decide +kernel⟩
theorem kX9_250 : KV RX9 250 5 yX4_billHeard cX4_billHeard 1 (some FieldType.int) 0 := ⟨⟨_, _, rfl, by decide⟩, TBL_mk 578 (by decide +kernel) (by decide +kernel), TBL_mk 579 (by decide +kernel) (by decide +kernel), TBL_mk 580 (by decide +kernel) (by decide +kernel), TBL_mk 76 (by decide +kernel) (by decide +kernel), TBL_mk 581 (by decide +kernel) (by decide +kernel), by decide +kernel, by decide +kernel, by decide +kernel⟩
theorem kX4_105 : KV RX4 105 7 yX6_cents cX6_cents 8 (some FieldType.int) 1 := ⟨⟨_, _, rfl, by decide⟩, TBL_mk 582 (by decide +kernel) (by decide +kernel), TBL_mk 583 (by decide +kernel) (by decide +kernel), TBL_mk 584 (by decide +kernel) (by decide +kernel), TBL_mk 78 (by decide +kernel) (by decide +kernel), TBL_mk 585 (by decide +kernel) (by decide +kernel), by decide +kernel, by decide +kernel, by decide +kernel⟩
theorem kX6_34 : KS RX6 34 yJ9_max_7cf53 cJ9_max_7cf53 2 (some FieldType.int) 2 := ⟨TBL_mk 587 (by decide +kernel) (by decide +kernel), TBL_mk 172 (by decide +kernel) (by decide +kernel), TBL_mk 60 (by decide +kernel) (by decide +kernel), TBL_mk 173 (by decide +kernel) (by decide +kernel), by decide +kernel, by decide +kernel, by decide +kernel⟩
theorem kX9_264 : KS RX9 264 yX9_partOf cX9_partOf 2 (some FieldType.int) 2 := ⟨TBL_mk 588 (by decide +kernel) (by decide +kernel), TBL_mk 589 (by decide +kernel) (by decide +kernel), TBL_mk 53 (by decide +kernel) (by decide +kernel), TBL_mk 590 (by decide +kernel) (by decide +kernel), by decide +kernel, by decide +kernel, by decide +kernel⟩
theorem kX9_268 : KS RX9 268 yX9_owe cX9_owe 3 none 3 := ⟨TBL_mk 592 (by decide +kernel) (by decide +kernel), TBL_mk 593 (by decide +kernel) (by decide +kernel), TBL_mk 53 (by decide +kernel) (by decide +kernel), TBL_mk 594 (by decide +kernel) (by decide +kernel), by decide +kernel, by decide +kernel, by decide +kernel⟩
theorem kX9_392 : KV RX9 392 5 yX4_isOfTwoFirms cX4_isOfTwoFirms 1 (some FieldType.boolean) 0 := ⟨⟨_, _, rfl, by decide⟩, TBL_mk 595 (by decide +kernel) (by decide +kernel), TBL_mk 596 (by decide +kernel) (by decide +kernel), TBL_mk 597 (by decide +kernel) (by decide +kernel), TBL_mk 76 (by decide +kernel) (by decide +kernel), TBL_mk 598 (by decide +kernel) (by decide +kernel), by decide +kernel, by decide +kernel, by decide +kernel⟩
theorem kX9_123 : KV RX9 123 10 yX9_goDown cX9_goDown 3 none 1 := ⟨⟨_, _, rfl, by decide⟩, TBL_mk 599 (by decide +kernel) (by decide +kernel), TBL_mk 601 (by decide +kernel) (by decide +kernel), TBL_mk 12 (by decide +kernel) (by decide +kernel), TBL_mk 53 (by decide +kernel) (by decide +kernel), TBL_mk 602 (by decide +kernel) (by decide +kernel), by decide +kernel, by decide +kernel, by decide +kernel⟩
theorem kL_40 : KV RL 40 10 yX9_tariff cX9_tariff 7 none 5 := ⟨⟨_, _, rfl, by decide⟩, TBL_mk 606 (by decide +kernel) (by decide +kernel), TBL_mk 607 (by decide +kernel) (by decide +kernel), TBL_mk 608 (by decide +kernel) (by decide +kernel), TBL_mk 53 (by decide +kernel) (by decide +kernel), TBL_mk 609 (by decide +kernel) (by decide +kernel), by decide +kernel, by decide +kernel, by decide +kernel⟩
theorem kX9_129 : KI RX9 129 yX7_init cX7_init 5 4 := ⟨TBL_mk 611 (by decide +kernel) (by decide +kernel), TBL_mk 122 (by decide +kernel) (by decide +kernel), rfl, TBL_mk 58 (by decide +kernel) (by decide +kernel), TBL_mk 123 (by decide +kernel) (by decide +kernel), by decide +kernel, by decide +kernel, by decide +kernel⟩
theorem kL_44 : KV RL 44 10 yX9_book cX9_book 8 (some FieldType.int) 4 := ⟨⟨_, _, rfl, by decide⟩, TBL_mk 615 (by decide +kernel) (by decide +kernel), TBL_mk 616 (by decide +kernel) (by decide +kernel), TBL_mk 617 (by decide +kernel) (by decide +kernel), TBL_mk 53 (by decide +kernel) (by decide +kernel), TBL_mk 618 (by decide +kernel) (by decide +kernel), by decide +kernel, by decide +kernel, by decide +kernel⟩
theorem kX9_134 : KS RX9 134 yX9_isBookedWithin cX9_isBookedWithin 5 (some FieldType.boolean) 3 := ⟨TBL_mk 619 (by decide +kernel) (by decide +kernel), TBL_mk 620 (by decide +kernel) (by decide +kernel), TBL_mk 53 (by decide +kernel) (by decide +kernel), TBL_mk 621 (by decide +kernel) (by decide +kernel), by decide +kernel, by decide +kernel, by decide +kernel⟩
theorem kX9_150 : KI RX9 150 yX0_init cX0_init 4 3 := ⟨TBL_mk 625 (by decide +kernel) (by decide +kernel), TBL_mk 626 (by decide +kernel) (by decide +kernel), rfl, TBL_mk 75 (by decide +kernel) (by decide +kernel), TBL_mk 627 (by decide +kernel) (by decide +kernel), by decide +kernel, by decide +kernel, by decide +kernel⟩
theorem kL_48 : KV RL 48 10 yX9_plug cX9_plug 8 (some FieldType.int) 3 := ⟨⟨_, _, rfl, by decide⟩, TBL_mk 645 (by decide +kernel) (by decide +kernel), TBL_mk 646 (by decide +kernel) (by decide +kernel), TBL_mk 647 (by decide +kernel) (by decide +kernel), TBL_mk 53 (by decide +kernel) (by decide +kernel), TBL_mk 648 (by decide +kernel) (by decide +kernel), by decide +kernel, by decide +kernel, by decide +kernel⟩
theorem kX9_153 : KV RX9 153 10 yX9_carAt cX9_carAt 2 (some (FieldType.object "ChargeYard$Car")) 1 := ⟨⟨_, _, rfl, by decide⟩, TBL_mk 649 (by decide +kernel) (by decide +kernel), TBL_mk 651 (by decide +kernel) (by decide +kernel), TBL_mk 13 (by decide +kernel) (by decide +kernel), TBL_mk 53 (by decide +kernel) (by decide +kernel), TBL_mk 652 (by decide +kernel) (by decide +kernel), by decide +kernel, by decide +kernel, by decide +kernel⟩
theorem kX9_157 : KV RX9 157 10 yX9_refusalOf cX9_refusalOf 4 (some FieldType.int) 3 := ⟨⟨_, _, rfl, by decide⟩, TBL_mk 654 (by decide +kernel) (by decide +kernel), TBL_mk 656 (by decide +kernel) (by decide +kernel), TBL_mk 14 (by decide +kernel) (by decide +kernel), TBL_mk 53 (by decide +kernel) (by decide +kernel), TBL_mk 657 (by decide +kernel) (by decide +kernel), by decide +kernel, by decide +kernel, by decide +kernel⟩
theorem kX9_336 : KV RX9 336 10 yX9_isBookedByAnother cX9_isBookedByAnother 5 (some FieldType.boolean) 2 := ⟨⟨_, _, rfl, by decide⟩, TBL_mk 658 (by decide +kernel) (by decide +kernel), TBL_mk 660 (by decide +kernel) (by decide +kernel), TBL_mk 15 (by decide +kernel) (by decide +kernel), TBL_mk 53 (by decide +kernel) (by decide +kernel), TBL_mk 661 (by decide +kernel) (by decide +kernel), by decide +kernel, by decide +kernel, by decide +kernel⟩
theorem kX9_323 : KV RX9 323 1 yX0_holdsAt cX0_holdsAt 2 (some FieldType.boolean) 1 := ⟨⟨_, _, rfl, by decide⟩, TBL_mk 662 (by decide +kernel) (by decide +kernel), TBL_mk 663 (by decide +kernel) (by decide +kernel), TBL_mk 664 (by decide +kernel) (by decide +kernel), TBL_mk 75 (by decide +kernel) (by decide +kernel), TBL_mk 665 (by decide +kernel) (by decide +kernel), by decide +kernel, by decide +kernel, by decide +kernel⟩
theorem kX0_22 : KV RX0 22 1 yX0_isLateAt cX0_isLateAt 2 (some FieldType.boolean) 1 := ⟨⟨_, _, rfl, by decide⟩, TBL_mk 666 (by decide +kernel) (by decide +kernel), TBL_mk 667 (by decide +kernel) (by decide +kernel), TBL_mk 668 (by decide +kernel) (by decide +kernel), TBL_mk 75 (by decide +kernel) (by decide +kernel), TBL_mk 669 (by decide +kernel) (by decide +kernel), by decide +kernel, by decide +kernel, by decide +kernel⟩
theorem kX9_163 : KI RX9 163 yX4_init cX4_init 5 4 := ⟨TBL_mk 671 (by decide +kernel) (by decide +kernel), TBL_mk 672 (by decide +kernel) (by decide +kernel), rfl, TBL_mk 76 (by decide +kernel) (by decide +kernel), TBL_mk 673 (by decide +kernel) (by decide +kernel), by decide +kernel, by decide +kernel, by decide +kernel⟩
theorem kX4_64 : KI RX4 64 yX8_init cX8_init 2 1 := ⟨TBL_mk 676 (by decide +kernel) (by decide +kernel), TBL_mk 677 (by decide +kernel) (by decide +kernel), rfl, TBL_mk 77 (by decide +kernel) (by decide +kernel), TBL_mk 678 (by decide +kernel) (by decide +kernel), by decide +kernel, by decide +kernel, by decide +kernel⟩
theorem kX9_166 : KV RX9 166 10 yX9_begin cX9_begin 2 none 1 := ⟨⟨_, _, rfl, by decide⟩, TBL_mk 775 (by decide +kernel) (by decide +kernel), TBL_mk 777 (by decide +kernel) (by decide +kernel), TBL_mk 16 (by decide +kernel) (by decide +kernel), TBL_mk 53 (by decide +kernel) (by decide +kernel), TBL_mk 778 (by decide +kernel) (by decide +kernel), by decide +kernel, by decide +kernel, by decide +kernel⟩
theorem kX9_343 : KV RX9 343 10 yX9_useBooking cX9_useBooking 5 none 2 := ⟨⟨_, _, rfl, by decide⟩, TBL_mk 779 (by decide +kernel) (by decide +kernel), TBL_mk 781 (by decide +kernel) (by decide +kernel), TBL_mk 17 (by decide +kernel) (by decide +kernel), TBL_mk 53 (by decide +kernel) (by decide +kernel), TBL_mk 782 (by decide +kernel) (by decide +kernel), by decide +kernel, by decide +kernel, by decide +kernel⟩
theorem kX9_327 : KV RX9 327 0 yJx4a65c_remove_915e3 cJx4a65c_remove_915e3 4 (some (FieldType.object "java/lang/Object")) 1 := ⟨⟨_, _, rfl, by decide⟩, TBL_mk 783 (by decide +kernel) (by decide +kernel), TBL_mk 784 (by decide +kernel) (by decide +kernel), TBL_mk 785 (by decide +kernel) (by decide +kernel), TBL_mk 56 (by decide +kernel) (by decide +kernel), TBL_mk 786 (by decide +kernel) (by decide +kernel), by decide +kernel, by decide +kernel, by decide +kernel⟩
theorem kJx4a65c_144 : KV RJx4a65c 144 0 yJx4a65c_fastRemove_b59b0 cJx4a65c_fastRemove_b59b0 4 none 2 := ⟨⟨_, _, rfl, by decide⟩, TBL_mk 787 (by decide +kernel) (by decide +kernel), TBL_mk 789 (by decide +kernel) (by decide +kernel), TBL_mk 18 (by decide +kernel) (by decide +kernel), TBL_mk 56 (by decide +kernel) (by decide +kernel), TBL_mk 790 (by decide +kernel) (by decide +kernel), by decide +kernel, by decide +kernel, by decide +kernel⟩
theorem kL_51 : KV RL 51 10 yX9_unplug cX9_unplug 3 (some FieldType.int) 1 := ⟨⟨_, _, rfl, by decide⟩, TBL_mk 795 (by decide +kernel) (by decide +kernel), TBL_mk 796 (by decide +kernel) (by decide +kernel), TBL_mk 797 (by decide +kernel) (by decide +kernel), TBL_mk 53 (by decide +kernel) (by decide +kernel), TBL_mk 798 (by decide +kernel) (by decide +kernel), by decide +kernel, by decide +kernel, by decide +kernel⟩
theorem kX9_170 : KV RX9 170 10 yX9_sessionAt cX9_sessionAt 2 (some (FieldType.object "ChargeYard$Session")) 1 := ⟨⟨_, _, rfl, by decide⟩, TBL_mk 799 (by decide +kernel) (by decide +kernel), TBL_mk 801 (by decide +kernel) (by decide +kernel), TBL_mk 19 (by decide +kernel) (by decide +kernel), TBL_mk 53 (by decide +kernel) (by decide +kernel), TBL_mk 802 (by decide +kernel) (by decide +kernel), by decide +kernel, by decide +kernel, by decide +kernel⟩
theorem kX9_194 : KV RX9 194 10 yX9_leaveRunning cX9_leaveRunning 3 none 1 := ⟨⟨_, _, rfl, by decide⟩, TBL_mk 805 (by decide +kernel) (by decide +kernel), TBL_mk 807 (by decide +kernel) (by decide +kernel), TBL_mk 20 (by decide +kernel) (by decide +kernel), TBL_mk 53 (by decide +kernel) (by decide +kernel), TBL_mk 808 (by decide +kernel) (by decide +kernel), by decide +kernel, by decide +kernel, by decide +kernel⟩
theorem kL_55 : KV RL 55 10 yX9_pass cX9_pass 3 (some FieldType.int) 1 := ⟨⟨_, _, rfl, by decide⟩, TBL_mk 812 (by decide +kernel) (by decide +kernel), TBL_mk 813 (by decide +kernel) (by decide +kernel), TBL_mk 814 (by decide +kernel) (by decide +kernel), TBL_mk 53 (by decide +kernel) (by decide +kernel), TBL_mk 815 (by decide +kernel) (by decide +kernel), by decide +kernel, by decide +kernel, by decide +kernel⟩
theorem kX9_214 : KV RX9 214 10 yX9_passMinute cX9_passMinute 4 none 0 := ⟨⟨_, _, rfl, by decide⟩, TBL_mk 817 (by decide +kernel) (by decide +kernel), TBL_mk 819 (by decide +kernel) (by decide +kernel), TBL_mk 21 (by decide +kernel) (by decide +kernel), TBL_mk 53 (by decide +kernel) (by decide +kernel), TBL_mk 820 (by decide +kernel) (by decide +kernel), by decide +kernel, by decide +kernel, by decide +kernel⟩
theorem kX9_237 : KV RX9 237 10 yX9_serveFirst cX9_serveFirst 4 (some FieldType.int) 0 := ⟨⟨_, _, rfl, by decide⟩, TBL_mk 821 (by decide +kernel) (by decide +kernel), TBL_mk 823 (by decide +kernel) (by decide +kernel), TBL_mk 22 (by decide +kernel) (by decide +kernel), TBL_mk 53 (by decide +kernel) (by decide +kernel), TBL_mk 824 (by decide +kernel) (by decide +kernel), by decide +kernel, by decide +kernel, by decide +kernel⟩
theorem kX9_347 : KV RX9 347 5 yX4_boundIn cX4_boundIn 2 (some FieldType.int) 1 := ⟨⟨_, _, rfl, by decide⟩, TBL_mk 825 (by decide +kernel) (by decide +kernel), TBL_mk 826 (by decide +kernel) (by decide +kernel), TBL_mk 827 (by decide +kernel) (by decide +kernel), TBL_mk 76 (by decide +kernel) (by decide +kernel), TBL_mk 828 (by decide +kernel) (by decide +kernel), by decide +kernel, by decide +kernel, by decide +kernel⟩
theorem kX4_80 : KV RX4 80 2 yX1_wants cX1_wants 4 (some FieldType.int) 1 := ⟨⟨_, _, rfl, by decide⟩, TBL_mk 829 (by decide +kernel) (by decide +kernel), TBL_mk 830 (by decide +kernel) (by decide +kernel), TBL_mk 831 (by decide +kernel) (by decide +kernel), TBL_mk 73 (by decide +kernel) (by decide +kernel), TBL_mk 832 (by decide +kernel) (by decide +kernel), by decide +kernel, by decide +kernel, by decide +kernel⟩
theorem kX1_28 : KS RX1 28 yJ9_min_7cf53 cJ9_min_7cf53 2 (some FieldType.int) 2 := ⟨TBL_mk 833 (by decide +kernel) (by decide +kernel), TBL_mk 207 (by decide +kernel) (by decide +kernel), TBL_mk 60 (by decide +kernel) (by decide +kernel), TBL_mk 208 (by decide +kernel) (by decide +kernel), by decide +kernel, by decide +kernel, by decide +kernel⟩
theorem kX4_89 : KS RX4 89 yJ9_min_7cf53 cJ9_min_7cf53 2 (some FieldType.int) 2 := ⟨TBL_mk 834 (by decide +kernel) (by decide +kernel), TBL_mk 207 (by decide +kernel) (by decide +kernel), TBL_mk 60 (by decide +kernel) (by decide +kernel), TBL_mk 208 (by decide +kernel) (by decide +kernel), by decide +kernel, by decide +kernel, by decide +kernel⟩
theorem kX9_353 : KV RX9 353 5 yX4_mostWhileDown cX4_mostWhileDown 3 (some FieldType.int) 1 := ⟨⟨_, _, rfl, by decide⟩, TBL_mk 835 (by decide +kernel) (by decide +kernel), TBL_mk 836 (by decide +kernel) (by decide +kernel), TBL_mk 837 (by decide +kernel) (by decide +kernel), TBL_mk 76 (by decide +kernel) (by decide +kernel), TBL_mk 838 (by decide +kernel) (by decide +kernel), by decide +kernel, by decide +kernel, by decide +kernel⟩
theorem kX9_356 : KS RX9 356 yJ9_min_7cf53 cJ9_min_7cf53 2 (some FieldType.int) 2 := ⟨TBL_mk 839 (by decide +kernel) (by decide +kernel), TBL_mk 207 (by decide +kernel) (by decide +kernel), TBL_mk 60 (by decide +kernel) (by decide +kernel), TBL_mk 208 (by decide +kernel) (by decide +kernel), by decide +kernel, by decide +kernel, by decide +kernel⟩
theorem kX9_361 : KV RX9 361 10 yX9_serveRanks cX9_serveRanks 9 (some FieldType.int) 2 := ⟨⟨_, _, rfl, by decide⟩, TBL_mk 840 (by decide +kernel) (by decide +kernel), TBL_mk 842 (by decide +kernel) (by decide +kernel), TBL_mk 23 (by decide +kernel) (by decide +kernel), TBL_mk 53 (by decide +kernel) (by decide +kernel), TBL_mk 843 (by decide +kernel) (by decide +kernel), by decide +kernel, by decide +kernel, by decide +kernel⟩
theorem kX9_240 : KV RX9 240 10 yX9_shareByLevels cX9_shareByLevels 8 none 1 := ⟨⟨_, _, rfl, by decide⟩, TBL_mk 844 (by decide +kernel) (by decide +kernel), TBL_mk 846 (by decide +kernel) (by decide +kernel), TBL_mk 24 (by decide +kernel) (by decide +kernel), TBL_mk 53 (by decide +kernel) (by decide +kernel), TBL_mk 847 (by decide +kernel) (by decide +kernel), by decide +kernel, by decide +kernel, by decide +kernel⟩
theorem kX9_368 : KV RX9 368 5 yX4_takesMore cX4_takesMore 1 (some FieldType.boolean) 0 := ⟨⟨_, _, rfl, by decide⟩, TBL_mk 848 (by decide +kernel) (by decide +kernel), TBL_mk 849 (by decide +kernel) (by decide +kernel), TBL_mk 850 (by decide +kernel) (by decide +kernel), TBL_mk 76 (by decide +kernel) (by decide +kernel), TBL_mk 851 (by decide +kernel) (by decide +kernel), by decide +kernel, by decide +kernel, by decide +kernel⟩
theorem kX9_372 : KV RX9 372 10 yX9_raise cX9_raise 6 none 2 := ⟨⟨_, _, rfl, by decide⟩, TBL_mk 852 (by decide +kernel) (by decide +kernel), TBL_mk 854 (by decide +kernel) (by decide +kernel), TBL_mk 25 (by decide +kernel) (by decide +kernel), TBL_mk 53 (by decide +kernel) (by decide +kernel), TBL_mk 855 (by decide +kernel) (by decide +kernel), by decide +kernel, by decide +kernel, by decide +kernel⟩
theorem kX9_375 : KS RX9 375 yX9_letFlow cX9_letFlow 2 none 1 := ⟨TBL_mk 856 (by decide +kernel) (by decide +kernel), TBL_mk 857 (by decide +kernel) (by decide +kernel), TBL_mk 53 (by decide +kernel) (by decide +kernel), TBL_mk 858 (by decide +kernel) (by decide +kernel), by decide +kernel, by decide +kernel, by decide +kernel⟩
theorem kX9_381 : KV RX9 381 2 yX1_isFull cX1_isFull 1 (some FieldType.boolean) 0 := ⟨⟨_, _, rfl, by decide⟩, TBL_mk 859 (by decide +kernel) (by decide +kernel), TBL_mk 860 (by decide +kernel) (by decide +kernel), TBL_mk 861 (by decide +kernel) (by decide +kernel), TBL_mk 73 (by decide +kernel) (by decide +kernel), TBL_mk 862 (by decide +kernel) (by decide +kernel), by decide +kernel, by decide +kernel, by decide +kernel⟩
theorem kX9_384 : KV RX9 384 9 yX8_make cX8_make 3 none 2 := ⟨⟨_, _, rfl, by decide⟩, TBL_mk 863 (by decide +kernel) (by decide +kernel), TBL_mk 864 (by decide +kernel) (by decide +kernel), TBL_mk 865 (by decide +kernel) (by decide +kernel), TBL_mk 77 (by decide +kernel) (by decide +kernel), TBL_mk 866 (by decide +kernel) (by decide +kernel), by decide +kernel, by decide +kernel, by decide +kernel⟩
theorem kX8_32 : KS RX8 32 yJ9_min_7cf53 cJ9_min_7cf53 2 (some FieldType.int) 2 := ⟨TBL_mk 867 (by decide +kernel) (by decide +kernel), TBL_mk 207 (by decide +kernel) (by decide +kernel), TBL_mk 60 (by decide +kernel) (by decide +kernel), TBL_mk 208 (by decide +kernel) (by decide +kernel), by decide +kernel, by decide +kernel, by decide +kernel⟩
theorem kX8_38 : KS RX8 38 yJ7_copyOf_59c91 cJ7_copyOf_59c91 3 (some (FieldType.array FieldType.int)) 2 := ⟨TBL_mk 868 (by decide +kernel) (by decide +kernel), TBL_mk 869 (by decide +kernel) (by decide +kernel), TBL_mk 61 (by decide +kernel) (by decide +kernel), TBL_mk 870 (by decide +kernel) (by decide +kernel), by decide +kernel, by decide +kernel, by decide +kernel⟩
theorem kX9_378 : KV RX9 378 10 yX9_listCards cX9_listCards 3 none 0 := ⟨⟨_, _, rfl, by decide⟩, TBL_mk 878 (by decide +kernel) (by decide +kernel), TBL_mk 880 (by decide +kernel) (by decide +kernel), TBL_mk 26 (by decide +kernel) (by decide +kernel), TBL_mk 53 (by decide +kernel) (by decide +kernel), TBL_mk 881 (by decide +kernel) (by decide +kernel), by decide +kernel, by decide +kernel, by decide +kernel⟩
theorem kX9_217 : KV RX9 217 10 yX9_dropLateBookings cX9_dropLateBookings 4 none 0 := ⟨⟨_, _, rfl, by decide⟩, TBL_mk 882 (by decide +kernel) (by decide +kernel), TBL_mk 884 (by decide +kernel) (by decide +kernel), TBL_mk 27 (by decide +kernel) (by decide +kernel), TBL_mk 53 (by decide +kernel) (by decide +kernel), TBL_mk 885 (by decide +kernel) (by decide +kernel), by decide +kernel, by decide +kernel, by decide +kernel⟩
theorem kX9_330 : KV RX9 330 1 yX0_isLateAt cX0_isLateAt 2 (some FieldType.boolean) 1 := ⟨⟨_, _, rfl, by decide⟩, TBL_mk 886 (by decide +kernel) (by decide +kernel), TBL_mk 667 (by decide +kernel) (by decide +kernel), TBL_mk 668 (by decide +kernel) (by decide +kernel), TBL_mk 75 (by decide +kernel) (by decide +kernel), TBL_mk 669 (by decide +kernel) (by decide +kernel), by decide +kernel, by decide +kernel, by decide +kernel⟩
theorem kL_58 : KV RL 58 10 yX9_of cX9_of 4 (some FieldType.int) 2 := ⟨⟨_, _, rfl, by decide⟩, TBL_mk 890 (by decide +kernel) (by decide +kernel), TBL_mk 891 (by decide +kernel) (by decide +kernel), TBL_mk 892 (by decide +kernel) (by decide +kernel), TBL_mk 53 (by decide +kernel) (by decide +kernel), TBL_mk 893 (by decide +kernel) (by decide +kernel), by decide +kernel, by decide +kernel, by decide +kernel⟩
theorem kX9_226 : KV RX9 226 5 yX4_state cX4_state 1 (some FieldType.int) 0 := ⟨⟨_, _, rfl, by decide⟩, TBL_mk 894 (by decide +kernel) (by decide +kernel), TBL_mk 895 (by decide +kernel) (by decide +kernel), TBL_mk 896 (by decide +kernel) (by decide +kernel), TBL_mk 76 (by decide +kernel) (by decide +kernel), TBL_mk 897 (by decide +kernel) (by decide +kernel), by decide +kernel, by decide +kernel, by decide +kernel⟩
theorem kL_61 : KV RL 61 10 yX9_charge cX9_charge 2 (some FieldType.int) 1 := ⟨⟨_, _, rfl, by decide⟩, TBL_mk 902 (by decide +kernel) (by decide +kernel), TBL_mk 903 (by decide +kernel) (by decide +kernel), TBL_mk 904 (by decide +kernel) (by decide +kernel), TBL_mk 53 (by decide +kernel) (by decide +kernel), TBL_mk 905 (by decide +kernel) (by decide +kernel), by decide +kernel, by decide +kernel, by decide +kernel⟩
theorem kL_64 : KV RL 64 10 yX9_power cX9_power 3 (some FieldType.int) 1 := ⟨⟨_, _, rfl, by decide⟩, TBL_mk 909 (by decide +kernel) (by decide +kernel), TBL_mk 910 (by decide +kernel) (by decide +kernel), TBL_mk 911 (by decide +kernel) (by decide +kernel), TBL_mk 53 (by decide +kernel) (by decide +kernel), TBL_mk 912 (by decide +kernel) (by decide +kernel), by decide +kernel, by decide +kernel, by decide +kernel⟩
theorem kL_67 : KV RL 67 10 yX9_powerAnew cX9_powerAnew 3 (some FieldType.int) 1 := ⟨⟨_, _, rfl, by decide⟩, TBL_mk 916 (by decide +kernel) (by decide +kernel), TBL_mk 917 (by decide +kernel) (by decide +kernel), TBL_mk 918 (by decide +kernel) (by decide +kernel), TBL_mk 53 (by decide +kernel) (by decide +kernel), TBL_mk 919 (by decide +kernel) (by decide +kernel), by decide +kernel, by decide +kernel, by decide +kernel⟩
theorem kX9_247 : KV RX9 247 10 yX9_shareWattByWatt cX9_shareWattByWatt 7 none 1 := ⟨⟨_, _, rfl, by decide⟩, TBL_mk 920 (by decide +kernel) (by decide +kernel), TBL_mk 922 (by decide +kernel) (by decide +kernel), TBL_mk 28 (by decide +kernel) (by decide +kernel), TBL_mk 53 (by decide +kernel) (by decide +kernel), TBL_mk 923 (by decide +kernel) (by decide +kernel), by decide +kernel, by decide +kernel, by decide +kernel⟩
theorem kL_70 : KV RL 70 10 yX9_bill cX9_bill 2 (some FieldType.int) 1 := ⟨⟨_, _, rfl, by decide⟩, TBL_mk 927 (by decide +kernel) (by decide +kernel), TBL_mk 928 (by decide +kernel) (by decide +kernel), TBL_mk 929 (by decide +kernel) (by decide +kernel), TBL_mk 53 (by decide +kernel) (by decide +kernel), TBL_mk 930 (by decide +kernel) (by decide +kernel), by decide +kernel, by decide +kernel, by decide +kernel⟩
theorem kL_73 : KV RL 73 10 yX9_billAnew cX9_billAnew 2 (some FieldType.int) 1 := ⟨⟨_, _, rfl, by decide⟩, TBL_mk 934 (by decide +kernel) (by decide +kernel), TBL_mk 935 (by decide +kernel) (by decide +kernel), TBL_mk 936 (by decide +kernel) (by decide +kernel), TBL_mk 53 (by decide +kernel) (by decide +kernel), TBL_mk 937 (by decide +kernel) (by decide +kernel), by decide +kernel, by decide +kernel, by decide +kernel⟩
theorem kX9_253 : KV RX9 253 5 yX4_billAll cX4_billAll 1 (some FieldType.int) 0 := ⟨⟨_, _, rfl, by decide⟩, TBL_mk 938 (by decide +kernel) (by decide +kernel), TBL_mk 939 (by decide +kernel) (by decide +kernel), TBL_mk 940 (by decide +kernel) (by decide +kernel), TBL_mk 76 (by decide +kernel) (by decide +kernel), TBL_mk 941 (by decide +kernel) (by decide +kernel), by decide +kernel, by decide +kernel, by decide +kernel⟩
theorem kX4_111 : KV RX4 111 9 yX8_ofAll cX8_ofAll 2 (some (FieldType.object "ChargeYard$Tally")) 0 := ⟨⟨_, _, rfl, by decide⟩, TBL_mk 942 (by decide +kernel) (by decide +kernel), TBL_mk 943 (by decide +kernel) (by decide +kernel), TBL_mk 944 (by decide +kernel) (by decide +kernel), TBL_mk 77 (by decide +kernel) (by decide +kernel), TBL_mk 945 (by decide +kernel) (by decide +kernel), by decide +kernel, by decide +kernel, by decide +kernel⟩
theorem kL_76 : KV RL 76 10 yX9_dispute cX9_dispute 5 (some FieldType.int) 2 := ⟨⟨_, _, rfl, by decide⟩, TBL_mk 949 (by decide +kernel) (by decide +kernel), TBL_mk 950 (by decide +kernel) (by decide +kernel), TBL_mk 951 (by decide +kernel) (by decide +kernel), TBL_mk 53 (by decide +kernel) (by decide +kernel), TBL_mk 952 (by decide +kernel) (by decide +kernel), by decide +kernel, by decide +kernel, by decide +kernel⟩
theorem kL_79 : KV RL 79 10 yX9_owes cX9_owes 2 (some FieldType.int) 1 := ⟨⟨_, _, rfl, by decide⟩, TBL_mk 957 (by decide +kernel) (by decide +kernel), TBL_mk 958 (by decide +kernel) (by decide +kernel), TBL_mk 959 (by decide +kernel) (by decide +kernel), TBL_mk 53 (by decide +kernel) (by decide +kernel), TBL_mk 960 (by decide +kernel) (by decide +kernel), by decide +kernel, by decide +kernel, by decide +kernel⟩
theorem kL_82 : KV RL 82 10 yX9_account cX9_account 2 (some FieldType.int) 1 := ⟨⟨_, _, rfl, by decide⟩, TBL_mk 964 (by decide +kernel) (by decide +kernel), TBL_mk 965 (by decide +kernel) (by decide +kernel), TBL_mk 966 (by decide +kernel) (by decide +kernel), TBL_mk 53 (by decide +kernel) (by decide +kernel), TBL_mk 967 (by decide +kernel) (by decide +kernel), by decide +kernel, by decide +kernel, by decide +kernel⟩
theorem kL_88 : KI RL 88 yX10_init cX10_init 2 0 := ⟨TBL_mk 970 (by decide +kernel) (by decide +kernel), TBL_mk 971 (by decide +kernel) (by decide +kernel), rfl, TBL_mk 63 (by decide +kernel) (by decide +kernel), TBL_mk 972 (by decide +kernel) (by decide +kernel), by decide +kernel, by decide +kernel, by decide +kernel⟩
theorem kL_95 : KV RL 95 11 yX10_thrown cX10_thrown 1 (some FieldType.int) 0 := ⟨⟨_, _, rfl, by decide⟩, TBL_mk 1126 (by decide +kernel) (by decide +kernel), TBL_mk 1127 (by decide +kernel) (by decide +kernel), TBL_mk 1128 (by decide +kernel) (by decide +kernel), TBL_mk 63 (by decide +kernel) (by decide +kernel), TBL_mk 1129 (by decide +kernel) (by decide +kernel), by decide +kernel, by decide +kernel, by decide +kernel⟩
theorem kL_94 : KV RL 94 11 yX10_socket cX10_socket 3 (some FieldType.int) 2 := ⟨⟨_, _, rfl, by decide⟩, TBL_mk 1130 (by decide +kernel) (by decide +kernel), TBL_mk 1131 (by decide +kernel) (by decide +kernel), TBL_mk 1132 (by decide +kernel) (by decide +kernel), TBL_mk 63 (by decide +kernel) (by decide +kernel), TBL_mk 1133 (by decide +kernel) (by decide +kernel), by decide +kernel, by decide +kernel, by decide +kernel⟩
theorem kX10_154 : KS RX10 154 yX10_isFirm cX10_isFirm 1 (some FieldType.boolean) 1 := ⟨TBL_mk 1134 (by decide +kernel) (by decide +kernel), TBL_mk 1135 (by decide +kernel) (by decide +kernel), TBL_mk 63 (by decide +kernel) (by decide +kernel), TBL_mk 1136 (by decide +kernel) (by decide +kernel), by decide +kernel, by decide +kernel, by decide +kernel⟩
theorem kX10_141 : KS RX10 141 yX10_in cX10_in 3 (some FieldType.boolean) 3 := ⟨TBL_mk 1137 (by decide +kernel) (by decide +kernel), TBL_mk 1138 (by decide +kernel) (by decide +kernel), TBL_mk 63 (by decide +kernel) (by decide +kernel), TBL_mk 1139 (by decide +kernel) (by decide +kernel), by decide +kernel, by decide +kernel, by decide +kernel⟩
theorem kX10_158 : KV RX10 158 11 yX10_stop cX10_stop 2 (some FieldType.int) 1 := ⟨⟨_, _, rfl, by decide⟩, TBL_mk 1140 (by decide +kernel) (by decide +kernel), TBL_mk 1142 (by decide +kernel) (by decide +kernel), TBL_mk 29 (by decide +kernel) (by decide +kernel), TBL_mk 63 (by decide +kernel) (by decide +kernel), TBL_mk 1143 (by decide +kernel) (by decide +kernel), by decide +kernel, by decide +kernel, by decide +kernel⟩
theorem kL_102 : KV RL 102 11 yX10_car cX10_car 4 (some FieldType.int) 3 := ⟨⟨_, _, rfl, by decide⟩, TBL_mk 1145 (by decide +kernel) (by decide +kernel), TBL_mk 1146 (by decide +kernel) (by decide +kernel), TBL_mk 1147 (by decide +kernel) (by decide +kernel), TBL_mk 63 (by decide +kernel) (by decide +kernel), TBL_mk 1148 (by decide +kernel) (by decide +kernel), by decide +kernel, by decide +kernel, by decide +kernel⟩
theorem kL_105 : KV RL 105 11 yX10_card cX10_card 3 (some FieldType.int) 2 := ⟨⟨_, _, rfl, by decide⟩, TBL_mk 1150 (by decide +kernel) (by decide +kernel), TBL_mk 1151 (by decide +kernel) (by decide +kernel), TBL_mk 1152 (by decide +kernel) (by decide +kernel), TBL_mk 63 (by decide +kernel) (by decide +kernel), TBL_mk 1153 (by decide +kernel) (by decide +kernel), by decide +kernel, by decide +kernel, by decide +kernel⟩
theorem kL_109 : KV RL 109 11 yX10_good cX10_good 4 (some FieldType.boolean) 2 := ⟨⟨_, _, rfl, by decide⟩, TBL_mk 1154 (by decide +kernel) (by decide +kernel), TBL_mk 1155 (by decide +kernel) (by decide +kernel), TBL_mk 1156 (by decide +kernel) (by decide +kernel), TBL_mk 63 (by decide +kernel) (by decide +kernel), TBL_mk 1157 (by decide +kernel) (by decide +kernel), by decide +kernel, by decide +kernel, by decide +kernel⟩
theorem kX10_167 : KV RX10 167 11 yX10_isCard cX10_isCard 2 (some FieldType.boolean) 1 := ⟨⟨_, _, rfl, by decide⟩, TBL_mk 1158 (by decide +kernel) (by decide +kernel), TBL_mk 1160 (by decide +kernel) (by decide +kernel), TBL_mk 30 (by decide +kernel) (by decide +kernel), TBL_mk 63 (by decide +kernel) (by decide +kernel), TBL_mk 1161 (by decide +kernel) (by decide +kernel), by decide +kernel, by decide +kernel, by decide +kernel⟩
theorem kX10_170 : KV RX10 170 11 yX10_refuse cX10_refuse 2 (some FieldType.boolean) 1 := ⟨⟨_, _, rfl, by decide⟩, TBL_mk 1162 (by decide +kernel) (by decide +kernel), TBL_mk 1164 (by decide +kernel) (by decide +kernel), TBL_mk 31 (by decide +kernel) (by decide +kernel), TBL_mk 63 (by decide +kernel) (by decide +kernel), TBL_mk 1165 (by decide +kernel) (by decide +kernel), by decide +kernel, by decide +kernel, by decide +kernel⟩
theorem kL_112 : KV RL 112 11 yX10_set cX10_set 5 (some FieldType.int) 2 := ⟨⟨_, _, rfl, by decide⟩, TBL_mk 1166 (by decide +kernel) (by decide +kernel), TBL_mk 1167 (by decide +kernel) (by decide +kernel), TBL_mk 1168 (by decide +kernel) (by decide +kernel), TBL_mk 63 (by decide +kernel) (by decide +kernel), TBL_mk 1169 (by decide +kernel) (by decide +kernel), by decide +kernel, by decide +kernel, by decide +kernel⟩
theorem kL_115 : KV RL 115 11 yX10_fault cX10_fault 4 (some FieldType.boolean) 2 := ⟨⟨_, _, rfl, by decide⟩, TBL_mk 1172 (by decide +kernel) (by decide +kernel), TBL_mk 1173 (by decide +kernel) (by decide +kernel), TBL_mk 1174 (by decide +kernel) (by decide +kernel), TBL_mk 63 (by decide +kernel) (by decide +kernel), TBL_mk 1175 (by decide +kernel) (by decide +kernel), by decide +kernel, by decide +kernel, by decide +kernel⟩
theorem kX10_178 : KV RX10 178 11 yX10_isSocket cX10_isSocket 2 (some FieldType.boolean) 1 := ⟨⟨_, _, rfl, by decide⟩, TBL_mk 1176 (by decide +kernel) (by decide +kernel), TBL_mk 1178 (by decide +kernel) (by decide +kernel), TBL_mk 32 (by decide +kernel) (by decide +kernel), TBL_mk 63 (by decide +kernel) (by decide +kernel), TBL_mk 1179 (by decide +kernel) (by decide +kernel), by decide +kernel, by decide +kernel, by decide +kernel⟩
theorem kL_118 : KV RL 118 11 yX10_link cX10_link 5 (some FieldType.int) 2 := ⟨⟨_, _, rfl, by decide⟩, TBL_mk 1180 (by decide +kernel) (by decide +kernel), TBL_mk 1181 (by decide +kernel) (by decide +kernel), TBL_mk 1182 (by decide +kernel) (by decide +kernel), TBL_mk 63 (by decide +kernel) (by decide +kernel), TBL_mk 1183 (by decide +kernel) (by decide +kernel), by decide +kernel, by decide +kernel, by decide +kernel⟩
theorem kX10_185 : KV RX10 185 11 yX10_hear cX10_hear 3 (some FieldType.int) 1 := ⟨⟨_, _, rfl, by decide⟩, TBL_mk 1184 (by decide +kernel) (by decide +kernel), TBL_mk 1186 (by decide +kernel) (by decide +kernel), TBL_mk 33 (by decide +kernel) (by decide +kernel), TBL_mk 63 (by decide +kernel) (by decide +kernel), TBL_mk 1187 (by decide +kernel) (by decide +kernel), by decide +kernel, by decide +kernel, by decide +kernel⟩
theorem kX10_181 : KV RX10 181 11 yX10_payFor cX10_payFor 3 none 1 := ⟨⟨_, _, rfl, by decide⟩, TBL_mk 1188 (by decide +kernel) (by decide +kernel), TBL_mk 1190 (by decide +kernel) (by decide +kernel), TBL_mk 34 (by decide +kernel) (by decide +kernel), TBL_mk 63 (by decide +kernel) (by decide +kernel), TBL_mk 1191 (by decide +kernel) (by decide +kernel), by decide +kernel, by decide +kernel, by decide +kernel⟩
theorem kX10_203 : KV RX10 203 11 yX10_billBy cX10_billBy 9 (some FieldType.int) 4 := ⟨⟨_, _, rfl, by decide⟩, TBL_mk 1192 (by decide +kernel) (by decide +kernel), TBL_mk 1194 (by decide +kernel) (by decide +kernel), TBL_mk 35 (by decide +kernel) (by decide +kernel), TBL_mk 63 (by decide +kernel) (by decide +kernel), TBL_mk 1195 (by decide +kernel) (by decide +kernel), by decide +kernel, by decide +kernel, by decide +kernel⟩
theorem kX10_211 : KV RX10 211 11 yX10_owe cX10_owe 5 none 2 := ⟨⟨_, _, rfl, by decide⟩, TBL_mk 1199 (by decide +kernel) (by decide +kernel), TBL_mk 1201 (by decide +kernel) (by decide +kernel), TBL_mk 36 (by decide +kernel) (by decide +kernel), TBL_mk 63 (by decide +kernel) (by decide +kernel), TBL_mk 1202 (by decide +kernel) (by decide +kernel), by decide +kernel, by decide +kernel, by decide +kernel⟩
theorem kL_122 : KV RL 122 11 yX10_tariff cX10_tariff 6 none 5 := ⟨⟨_, _, rfl, by decide⟩, TBL_mk 1203 (by decide +kernel) (by decide +kernel), TBL_mk 1204 (by decide +kernel) (by decide +kernel), TBL_mk 1205 (by decide +kernel) (by decide +kernel), TBL_mk 63 (by decide +kernel) (by decide +kernel), TBL_mk 1206 (by decide +kernel) (by decide +kernel), by decide +kernel, by decide +kernel, by decide +kernel⟩
theorem kL_126 : KV RL 126 11 yX10_book cX10_book 7 (some FieldType.int) 4 := ⟨⟨_, _, rfl, by decide⟩, TBL_mk 1207 (by decide +kernel) (by decide +kernel), TBL_mk 1208 (by decide +kernel) (by decide +kernel), TBL_mk 1209 (by decide +kernel) (by decide +kernel), TBL_mk 63 (by decide +kernel) (by decide +kernel), TBL_mk 1210 (by decide +kernel) (by decide +kernel), by decide +kernel, by decide +kernel, by decide +kernel⟩
theorem kL_129 : KV RL 129 11 yX10_plug cX10_plug 6 (some FieldType.int) 3 := ⟨⟨_, _, rfl, by decide⟩, TBL_mk 1211 (by decide +kernel) (by decide +kernel), TBL_mk 1212 (by decide +kernel) (by decide +kernel), TBL_mk 1213 (by decide +kernel) (by decide +kernel), TBL_mk 63 (by decide +kernel) (by decide +kernel), TBL_mk 1214 (by decide +kernel) (by decide +kernel), by decide +kernel, by decide +kernel, by decide +kernel⟩
theorem kX10_195 : KV RX10 195 11 yX10_holding cX10_holding 3 (some FieldType.int) 1 := ⟨⟨_, _, rfl, by decide⟩, TBL_mk 1215 (by decide +kernel) (by decide +kernel), TBL_mk 1217 (by decide +kernel) (by decide +kernel), TBL_mk 37 (by decide +kernel) (by decide +kernel), TBL_mk 63 (by decide +kernel) (by decide +kernel), TBL_mk 1218 (by decide +kernel) (by decide +kernel), by decide +kernel, by decide +kernel, by decide +kernel⟩
theorem kX10_198 : KV RX10 198 11 yX10_isAway cX10_isAway 4 (some FieldType.boolean) 1 := ⟨⟨_, _, rfl, by decide⟩, TBL_mk 1219 (by decide +kernel) (by decide +kernel), TBL_mk 1221 (by decide +kernel) (by decide +kernel), TBL_mk 38 (by decide +kernel) (by decide +kernel), TBL_mk 63 (by decide +kernel) (by decide +kernel), TBL_mk 1222 (by decide +kernel) (by decide +kernel), by decide +kernel, by decide +kernel, by decide +kernel⟩
theorem kX10_191 : KV RX10 191 11 yX10_goes cX10_goes 5 none 2 := ⟨⟨_, _, rfl, by decide⟩, TBL_mk 1223 (by decide +kernel) (by decide +kernel), TBL_mk 1225 (by decide +kernel) (by decide +kernel), TBL_mk 39 (by decide +kernel) (by decide +kernel), TBL_mk 63 (by decide +kernel) (by decide +kernel), TBL_mk 1226 (by decide +kernel) (by decide +kernel), by decide +kernel, by decide +kernel, by decide +kernel⟩
theorem kL_133 : KV RL 133 11 yX10_unplug cX10_unplug 3 (some FieldType.int) 1 := ⟨⟨_, _, rfl, by decide⟩, TBL_mk 1227 (by decide +kernel) (by decide +kernel), TBL_mk 1228 (by decide +kernel) (by decide +kernel), TBL_mk 1229 (by decide +kernel) (by decide +kernel), TBL_mk 63 (by decide +kernel) (by decide +kernel), TBL_mk 1230 (by decide +kernel) (by decide +kernel), by decide +kernel, by decide +kernel, by decide +kernel⟩
theorem kX10_214 : KV RX10 214 11 yX10_isSession cX10_isSession 2 (some FieldType.boolean) 1 := ⟨⟨_, _, rfl, by decide⟩, TBL_mk 1231 (by decide +kernel) (by decide +kernel), TBL_mk 1233 (by decide +kernel) (by decide +kernel), TBL_mk 40 (by decide +kernel) (by decide +kernel), TBL_mk 63 (by decide +kernel) (by decide +kernel), TBL_mk 1234 (by decide +kernel) (by decide +kernel), by decide +kernel, by decide +kernel, by decide +kernel⟩
theorem kL_136 : KV RL 136 11 yX10_pass cX10_pass 3 (some FieldType.int) 1 := ⟨⟨_, _, rfl, by decide⟩, TBL_mk 1235 (by decide +kernel) (by decide +kernel), TBL_mk 1236 (by decide +kernel) (by decide +kernel), TBL_mk 1237 (by decide +kernel) (by decide +kernel), TBL_mk 63 (by decide +kernel) (by decide +kernel), TBL_mk 1238 (by decide +kernel) (by decide +kernel), by decide +kernel, by decide +kernel, by decide +kernel⟩
theorem kX10_258 : KV RX10 258 11 yX10_passOne cX10_passOne 4 none 0 := ⟨⟨_, _, rfl, by decide⟩, TBL_mk 1239 (by decide +kernel) (by decide +kernel), TBL_mk 1241 (by decide +kernel) (by decide +kernel), TBL_mk 41 (by decide +kernel) (by decide +kernel), TBL_mk 63 (by decide +kernel) (by decide +kernel), TBL_mk 1242 (by decide +kernel) (by decide +kernel), by decide +kernel, by decide +kernel, by decide +kernel⟩
theorem kX10_251 : KV RX10 251 11 yX10_find cX10_find 5 (some FieldType.int) 0 := ⟨⟨_, _, rfl, by decide⟩, TBL_mk 1243 (by decide +kernel) (by decide +kernel), TBL_mk 1245 (by decide +kernel) (by decide +kernel), TBL_mk 42 (by decide +kernel) (by decide +kernel), TBL_mk 63 (by decide +kernel) (by decide +kernel), TBL_mk 1246 (by decide +kernel) (by decide +kernel), by decide +kernel, by decide +kernel, by decide +kernel⟩
theorem kX10_235 : KV RX10 235 11 yX10_wants cX10_wants 4 (some FieldType.int) 1 := ⟨⟨_, _, rfl, by decide⟩, TBL_mk 1247 (by decide +kernel) (by decide +kernel), TBL_mk 1249 (by decide +kernel) (by decide +kernel), TBL_mk 43 (by decide +kernel) (by decide +kernel), TBL_mk 63 (by decide +kernel) (by decide +kernel), TBL_mk 1250 (by decide +kernel) (by decide +kernel), by decide +kernel, by decide +kernel, by decide +kernel⟩
theorem kX10_238 : KV RX10 238 11 yX10_cap cX10_cap 3 (some FieldType.int) 1 := ⟨⟨_, _, rfl, by decide⟩, TBL_mk 1253 (by decide +kernel) (by decide +kernel), TBL_mk 1255 (by decide +kernel) (by decide +kernel), TBL_mk 44 (by decide +kernel) (by decide +kernel), TBL_mk 63 (by decide +kernel) (by decide +kernel), TBL_mk 1256 (by decide +kernel) (by decide +kernel), by decide +kernel, by decide +kernel, by decide +kernel⟩
theorem kX10_241 : KV RX10 241 11 yX10_serve cX10_serve 6 (some FieldType.int) 2 := ⟨⟨_, _, rfl, by decide⟩, TBL_mk 1257 (by decide +kernel) (by decide +kernel), TBL_mk 1259 (by decide +kernel) (by decide +kernel), TBL_mk 45 (by decide +kernel) (by decide +kernel), TBL_mk 63 (by decide +kernel) (by decide +kernel), TBL_mk 1260 (by decide +kernel) (by decide +kernel), by decide +kernel, by decide +kernel, by decide +kernel⟩
theorem kX10_228 : KV RX10 228 11 yX10_behind cX10_behind 5 (some FieldType.int) 1 := ⟨⟨_, _, rfl, by decide⟩, TBL_mk 1261 (by decide +kernel) (by decide +kernel), TBL_mk 1263 (by decide +kernel) (by decide +kernel), TBL_mk 46 (by decide +kernel) (by decide +kernel), TBL_mk 63 (by decide +kernel) (by decide +kernel), TBL_mk 1264 (by decide +kernel) (by decide +kernel), by decide +kernel, by decide +kernel, by decide +kernel⟩
theorem kX10_221 : KV RX10 221 11 yX10_isServed cX10_isServed 2 (some FieldType.boolean) 1 := ⟨⟨_, _, rfl, by decide⟩, TBL_mk 1265 (by decide +kernel) (by decide +kernel), TBL_mk 1267 (by decide +kernel) (by decide +kernel), TBL_mk 47 (by decide +kernel) (by decide +kernel), TBL_mk 63 (by decide +kernel) (by decide +kernel), TBL_mk 1268 (by decide +kernel) (by decide +kernel), by decide +kernel, by decide +kernel, by decide +kernel⟩
theorem kX10_224 : KV RX10 224 11 yX10_isAhead cX10_isAhead 5 (some FieldType.boolean) 2 := ⟨⟨_, _, rfl, by decide⟩, TBL_mk 1269 (by decide +kernel) (by decide +kernel), TBL_mk 1271 (by decide +kernel) (by decide +kernel), TBL_mk 48 (by decide +kernel) (by decide +kernel), TBL_mk 63 (by decide +kernel) (by decide +kernel), TBL_mk 1272 (by decide +kernel) (by decide +kernel), by decide +kernel, by decide +kernel, by decide +kernel⟩
theorem kX10_245 : KV RX10 245 11 yX10_share cX10_share 9 none 1 := ⟨⟨_, _, rfl, by decide⟩, TBL_mk 1273 (by decide +kernel) (by decide +kernel), TBL_mk 1275 (by decide +kernel) (by decide +kernel), TBL_mk 49 (by decide +kernel) (by decide +kernel), TBL_mk 63 (by decide +kernel) (by decide +kernel), TBL_mk 1276 (by decide +kernel) (by decide +kernel), by decide +kernel, by decide +kernel, by decide +kernel⟩
theorem kX10_231 : KV RX10 231 11 yX10_isOpen cX10_isOpen 2 (some FieldType.boolean) 1 := ⟨⟨_, _, rfl, by decide⟩, TBL_mk 1277 (by decide +kernel) (by decide +kernel), TBL_mk 1279 (by decide +kernel) (by decide +kernel), TBL_mk 50 (by decide +kernel) (by decide +kernel), TBL_mk 63 (by decide +kernel) (by decide +kernel), TBL_mk 1280 (by decide +kernel) (by decide +kernel), by decide +kernel, by decide +kernel, by decide +kernel⟩
theorem kX10_255 : KV RX10 255 11 yX10_lateGo cX10_lateGo 3 none 0 := ⟨⟨_, _, rfl, by decide⟩, TBL_mk 1282 (by decide +kernel) (by decide +kernel), TBL_mk 1284 (by decide +kernel) (by decide +kernel), TBL_mk 51 (by decide +kernel) (by decide +kernel), TBL_mk 63 (by decide +kernel) (by decide +kernel), TBL_mk 1285 (by decide +kernel) (by decide +kernel), by decide +kernel, by decide +kernel, by decide +kernel⟩
theorem kL_139 : KV RL 139 11 yX10_of cX10_of 3 (some FieldType.int) 2 := ⟨⟨_, _, rfl, by decide⟩, TBL_mk 1286 (by decide +kernel) (by decide +kernel), TBL_mk 1287 (by decide +kernel) (by decide +kernel), TBL_mk 1288 (by decide +kernel) (by decide +kernel), TBL_mk 63 (by decide +kernel) (by decide +kernel), TBL_mk 1289 (by decide +kernel) (by decide +kernel), by decide +kernel, by decide +kernel, by decide +kernel⟩
theorem kL_142 : KV RL 142 11 yX10_charge cX10_charge 2 (some FieldType.int) 1 := ⟨⟨_, _, rfl, by decide⟩, TBL_mk 1290 (by decide +kernel) (by decide +kernel), TBL_mk 1291 (by decide +kernel) (by decide +kernel), TBL_mk 1292 (by decide +kernel) (by decide +kernel), TBL_mk 63 (by decide +kernel) (by decide +kernel), TBL_mk 1293 (by decide +kernel) (by decide +kernel), by decide +kernel, by decide +kernel, by decide +kernel⟩
theorem kL_145 : KV RL 145 11 yX10_power cX10_power 2 (some FieldType.int) 1 := ⟨⟨_, _, rfl, by decide⟩, TBL_mk 1294 (by decide +kernel) (by decide +kernel), TBL_mk 1295 (by decide +kernel) (by decide +kernel), TBL_mk 1296 (by decide +kernel) (by decide +kernel), TBL_mk 63 (by decide +kernel) (by decide +kernel), TBL_mk 1297 (by decide +kernel) (by decide +kernel), by decide +kernel, by decide +kernel, by decide +kernel⟩
theorem kL_148 : KV RL 148 11 yX10_powerAnew cX10_powerAnew 2 (some FieldType.int) 1 := ⟨⟨_, _, rfl, by decide⟩, TBL_mk 1298 (by decide +kernel) (by decide +kernel), TBL_mk 1299 (by decide +kernel) (by decide +kernel), TBL_mk 1300 (by decide +kernel) (by decide +kernel), TBL_mk 63 (by decide +kernel) (by decide +kernel), TBL_mk 1301 (by decide +kernel) (by decide +kernel), by decide +kernel, by decide +kernel, by decide +kernel⟩
theorem kX10_261 : KV RX10 261 11 yX10_power cX10_power 2 (some FieldType.int) 1 := ⟨⟨_, _, rfl, by decide⟩, TBL_mk 1302 (by decide +kernel) (by decide +kernel), TBL_mk 1295 (by decide +kernel) (by decide +kernel), TBL_mk 1296 (by decide +kernel) (by decide +kernel), TBL_mk 63 (by decide +kernel) (by decide +kernel), TBL_mk 1297 (by decide +kernel) (by decide +kernel), by decide +kernel, by decide +kernel, by decide +kernel⟩
theorem kL_152 : KV RL 152 11 yX10_overloads cX10_overloads 1 (some FieldType.int) 0 := ⟨⟨_, _, rfl, by decide⟩, TBL_mk 1303 (by decide +kernel) (by decide +kernel), TBL_mk 1304 (by decide +kernel) (by decide +kernel), TBL_mk 1305 (by decide +kernel) (by decide +kernel), TBL_mk 63 (by decide +kernel) (by decide +kernel), TBL_mk 1306 (by decide +kernel) (by decide +kernel), by decide +kernel, by decide +kernel, by decide +kernel⟩
theorem kL_155 : KV RL 155 11 yX10_bill cX10_bill 2 (some FieldType.int) 1 := ⟨⟨_, _, rfl, by decide⟩, TBL_mk 1307 (by decide +kernel) (by decide +kernel), TBL_mk 1308 (by decide +kernel) (by decide +kernel), TBL_mk 1309 (by decide +kernel) (by decide +kernel), TBL_mk 63 (by decide +kernel) (by decide +kernel), TBL_mk 1310 (by decide +kernel) (by decide +kernel), by decide +kernel, by decide +kernel, by decide +kernel⟩
theorem kL_158 : KV RL 158 11 yX10_billAnew cX10_billAnew 2 (some FieldType.int) 1 := ⟨⟨_, _, rfl, by decide⟩, TBL_mk 1311 (by decide +kernel) (by decide +kernel), TBL_mk 1312 (by decide +kernel) (by decide +kernel), TBL_mk 1313 (by decide +kernel) (by decide +kernel), TBL_mk 63 (by decide +kernel) (by decide +kernel), TBL_mk 1314 (by decide +kernel) (by decide +kernel), by decide +kernel, by decide +kernel, by decide +kernel⟩
theorem kL_161 : KV RL 161 11 yX10_dispute cX10_dispute 4 (some FieldType.int) 2 := ⟨⟨_, _, rfl, by decide⟩, TBL_mk 1315 (by decide +kernel) (by decide +kernel), TBL_mk 1316 (by decide +kernel) (by decide +kernel), TBL_mk 1317 (by decide +kernel) (by decide +kernel), TBL_mk 63 (by decide +kernel) (by decide +kernel), TBL_mk 1318 (by decide +kernel) (by decide +kernel), by decide +kernel, by decide +kernel, by decide +kernel⟩
theorem kL_164 : KV RL 164 11 yX10_owes cX10_owes 2 (some FieldType.int) 1 := ⟨⟨_, _, rfl, by decide⟩, TBL_mk 1319 (by decide +kernel) (by decide +kernel), TBL_mk 1320 (by decide +kernel) (by decide +kernel), TBL_mk 1321 (by decide +kernel) (by decide +kernel), TBL_mk 63 (by decide +kernel) (by decide +kernel), TBL_mk 1322 (by decide +kernel) (by decide +kernel), by decide +kernel, by decide +kernel, by decide +kernel⟩
theorem kL_167 : KV RL 167 11 yX10_account cX10_account 4 (some FieldType.int) 1 := ⟨⟨_, _, rfl, by decide⟩, TBL_mk 1323 (by decide +kernel) (by decide +kernel), TBL_mk 1324 (by decide +kernel) (by decide +kernel), TBL_mk 1325 (by decide +kernel) (by decide +kernel), TBL_mk 63 (by decide +kernel) (by decide +kernel), TBL_mk 1326 (by decide +kernel) (by decide +kernel), by decide +kernel, by decide +kernel, by decide +kernel⟩
theorem kX9_49 : KM RX9 RX9 49 yX3_init cX3_init 1 0 := ⟨by decide +kernel, TBL_mk 116 (by decide +kernel) (by decide +kernel), rfl, TBL_mk 57 (by decide +kernel) (by decide +kernel), TBL_mk 117 (by decide +kernel) (by decide +kernel), by decide +kernel, by decide +kernel, by decide +kernel⟩
theorem kX8_24 : KM RX8 RX9 24 yX6_init cX6_init 1 0 := ⟨by decide +kernel, TBL_mk 683 (by decide +kernel) (by decide +kernel), rfl, TBL_mk 78 (by decide +kernel) (by decide +kernel), TBL_mk 684 (by decide +kernel) (by decide +kernel), by decide +kernel, by decide +kernel, by decide +kernel⟩
theorem nL_8 : KN RL 8 10 RX9 11 := ⟨TBL_mk 79 (by decide +kernel) (by decide +kernel), TBL_mk 80 (by decide +kernel) (by decide +kernel), TBL_mk 53 (by decide +kernel) (by decide +kernel)⟩
theorem nX9_7 : KN RX9 7 0 RJx4a65c 3 := ⟨TBL_mk 87 (by decide +kernel) (by decide +kernel), TBL_mk 88 (by decide +kernel) (by decide +kernel), TBL_mk 56 (by decide +kernel) (by decide +kernel)⟩
theorem nX9_47 : KN RX9 47 4 RX3 2 := ⟨TBL_mk 113 (by decide +kernel) (by decide +kernel), TBL_mk 114 (by decide +kernel) (by decide +kernel), TBL_mk 57 (by decide +kernel) (by decide +kernel)⟩
theorem nX3_7 : KN RX3 7 8 RX7 4 := ⟨TBL_mk 119 (by decide +kernel) (by decide +kernel), TBL_mk 120 (by decide +kernel) (by decide +kernel), TBL_mk 58 (by decide +kernel) (by decide +kernel)⟩
theorem nX9_71 : KN RX9 71 6 RX5 8 := ⟨TBL_mk 391 (by decide +kernel) (by decide +kernel), TBL_mk 392 (by decide +kernel) (by decide +kernel), TBL_mk 72 (by decide +kernel) (by decide +kernel)⟩
theorem nX5_24 : KN RX5 24 0 RJx4a65c 3 := ⟨TBL_mk 397 (by decide +kernel) (by decide +kernel), TBL_mk 88 (by decide +kernel) (by decide +kernel), TBL_mk 56 (by decide +kernel) (by decide +kernel)⟩
theorem nX9_80 : KN RX9 80 2 RX1 5 := ⟨TBL_mk 444 (by decide +kernel) (by decide +kernel), TBL_mk 445 (by decide +kernel) (by decide +kernel), TBL_mk 73 (by decide +kernel) (by decide +kernel)⟩
theorem nX9_86 : KN RX9 86 3 RX2 5 := ⟨TBL_mk 476 (by decide +kernel) (by decide +kernel), TBL_mk 477 (by decide +kernel) (by decide +kernel), TBL_mk 74 (by decide +kernel) (by decide +kernel)⟩
theorem nX9_161 : KN RX9 161 5 RX4 14 := ⟨TBL_mk 560 (by decide +kernel) (by decide +kernel), TBL_mk 670 (by decide +kernel) (by decide +kernel), TBL_mk 76 (by decide +kernel) (by decide +kernel)⟩
theorem nX9_127 : KN RX9 127 8 RX7 4 := ⟨TBL_mk 610 (by decide +kernel) (by decide +kernel), TBL_mk 120 (by decide +kernel) (by decide +kernel), TBL_mk 58 (by decide +kernel) (by decide +kernel)⟩
theorem nX9_148 : KN RX9 148 1 RX0 3 := ⟨TBL_mk 622 (by decide +kernel) (by decide +kernel), TBL_mk 624 (by decide +kernel) (by decide +kernel), TBL_mk 75 (by decide +kernel) (by decide +kernel)⟩
theorem nX4_62 : KN RX4 62 9 RX8 5 := ⟨TBL_mk 675 (by decide +kernel) (by decide +kernel), TBL_mk 568 (by decide +kernel) (by decide +kernel), TBL_mk 77 (by decide +kernel) (by decide +kernel)⟩
theorem nX8_22 : KN RX8 22 7 RX6 4 := ⟨TBL_mk 680 (by decide +kernel) (by decide +kernel), TBL_mk 681 (by decide +kernel) (by decide +kernel), TBL_mk 78 (by decide +kernel) (by decide +kernel)⟩
theorem nL_86 : KN RL 86 11 RX10 50 := ⟨TBL_mk 968 (by decide +kernel) (by decide +kernel), TBL_mk 969 (by decide +kernel) (by decide +kernel), TBL_mk 63 (by decide +kernel) (by decide +kernel)⟩
theorem qJ8_200 : Cond.constant RJ8 200 (zI 2147483639) ∈ TBL := TBL_mk 174 (by decide +kernel) (by decide +kernel)
theorem qX9_58 : Cond.constant RX9 58 (zI 50000) ∈ TBL := TBL_mk 352 (by decide +kernel) (by decide +kernel)
theorem qX9_79 : Cond.constant RX9 79 (zI 6000000) ∈ TBL := TBL_mk 443 (by decide +kernel) (by decide +kernel)
theorem qX9_299 : Cond.constant RX9 299 (zI 200000) ∈ TBL := TBL_mk 527 (by decide +kernel) (by decide +kernel)
theorem qX9_300 : Cond.constant RX9 300 (zI 100000) ∈ TBL := TBL_mk 532 (by decide +kernel) (by decide +kernel)
theorem qX10_162 : Cond.constant RX10 162 (zI 50000) ∈ TBL := TBL_mk 1144 (by decide +kernel) (by decide +kernel)
theorem qX10_163 : Cond.constant RX10 163 (zI 6000000) ∈ TBL := TBL_mk 1149 (by decide +kernel) (by decide +kernel)
theorem qX10_173 : Cond.constant RX10 173 (zI 200000) ∈ TBL := TBL_mk 1170 (by decide +kernel) (by decide +kernel)
theorem qX10_174 : Cond.constant RX10 174 (zI 100000) ∈ TBL := TBL_mk 1171 (by decide +kernel) (by decide +kernel)
theorem qX10_234 : Cond.constant RX10 234 (zI 1000000) ∈ TBL := TBL_mk 1281 (by decide +kernel) (by decide +kernel)
theorem qX6_29 : Cond.constantLong RX6 29 (zL 60000) ∈ TBL := TBL_mk 586 (by decide +kernel) (by decide +kernel)
theorem qX9_396 : Cond.constantLong RX9 396 (zL 100) ∈ TBL := TBL_mk 591 (by decide +kernel) (by decide +kernel)
theorem qX10_201 : Cond.constantLong RX10 201 (zL 60000) ∈ TBL := TBL_mk 1196 (by decide +kernel) (by decide +kernel)
theorem qX10_207 : Cond.constantLong RX10 207 (zL 95) ∈ TBL := TBL_mk 1197 (by decide +kernel) (by decide +kernel)
theorem qX10_209 : Cond.constantLong RX10 209 (zL 100) ∈ TBL := TBL_mk 1198 (by decide +kernel) (by decide +kernel)
theorem qX10_217 : Cond.constantLong RX10 217 (zL 10) ∈ TBL := TBL_mk 1251 (by decide +kernel) (by decide +kernel)
theorem qX10_219 : Cond.constantLong RX10 219 (zL 8) ∈ TBL := TBL_mk 1252 (by decide +kernel) (by decide +kernel)
theorem a_byte : Cond.arrayClass .byte ∈ TBL := TBL_mk 337 (by decide +kernel) (by decide +kernel)
theorem a_int : Cond.arrayClass .int ∈ TBL := TBL_mk 699 (by decide +kernel) (by decide +kernel)
theorem a_boolean : Cond.arrayClass .boolean ∈ TBL := TBL_mk 1125 (by decide +kernel) (by decide +kernel)
theorem a_long : Cond.arrayClass .long ∈ TBL := TBL_mk 1327 (by decide +kernel) (by decide +kernel)
theorem o10 : Cond.castable RX9 "java/lang/Object" ∈ NW := by decide +kernel
theorem o0 : Cond.castable RJx4a65c "java/lang/Object" ∈ NW := by decide +kernel
theorem o4 : Cond.castable RX3 "java/lang/Object" ∈ NW := by decide +kernel
theorem o8 : Cond.castable RX7 "java/lang/Object" ∈ NW := by decide +kernel
theorem o11 : Cond.castable RX10 "java/lang/Object" ∈ NW := by decide +kernel
theorem o6 : Cond.castable RX5 "java/lang/Object" ∈ NW := by decide +kernel
theorem o2 : Cond.castable RX1 "java/lang/Object" ∈ NW := by decide +kernel
theorem o3 : Cond.castable RX2 "java/lang/Object" ∈ NW := by decide +kernel
theorem o1 : Cond.castable RX0 "java/lang/Object" ∈ NW := by decide +kernel
theorem o5 : Cond.castable RX4 "java/lang/Object" ∈ NW := by decide +kernel
theorem o9 : Cond.castable RX8 "java/lang/Object" ∈ NW := by decide +kernel
theorem o7 : Cond.castable RX6 "java/lang/Object" ∈ NW := by decide +kernel
theorem kt_mk {L : List Cond} (h : L.all (fun w => (decide (w ∈ lw_tbl) && goodWord w) || decide (w ∈ NW)) = true) : ∀ w ∈ L, w ∈ TBL ∨ w ∈ NW := by
  intro w hw
  have h1 := List.all_eq_true.mp h w hw
  simp only [Bool.or_eq_true, Bool.and_eq_true, decide_eq_true_eq] at h1
  exact h1.imp (fun z => List.mem_filter.mpr ⟨z.1, z.2⟩) id
theorem kt_ot {L : List Cond} (h : L.all vx_ot = true) : ∀ w ∈ L, vx_ot w = true := fun w hw => List.all_eq_true.mp h w hw
theorem tX9_140 : KT RX9 "java/lang/IllegalStateException" "the card is not good, or the socket is booked then" 138 140 142 := ⟨by decide +kernel, by decide +kernel, TBL_mk 375 (by decide +kernel) (by decide +kernel), TBL_mk 71 (by decide +kernel) (by decide +kernel), by decide +kernel, kt_mk (by decide +kernel), kt_ot (by decide +kernel)⟩
theorem tX9_177 : KT RX9 "java/lang/IllegalStateException" "it is unplugged" 138 177 142 := ⟨by decide +kernel, by decide +kernel, TBL_mk 375 (by decide +kernel) (by decide +kernel), TBL_mk 71 (by decide +kernel) (by decide +kernel), by decide +kernel, kt_mk (by decide +kernel), kt_ot (by decide +kernel)⟩
theorem tX9_212 : KT RX9 "java/lang/IllegalStateException" "there are no minutes above 20000" 138 212 142 := ⟨by decide +kernel, by decide +kernel, TBL_mk 375 (by decide +kernel) (by decide +kernel), TBL_mk 71 (by decide +kernel) (by decide +kernel), by decide +kernel, kt_mk (by decide +kernel), kt_ot (by decide +kernel)⟩
theorem tX9_231 : KT RX9 "java/lang/IllegalArgumentException" "what is out of its range" 229 231 233 := ⟨by decide +kernel, by decide +kernel, TBL_mk 356 (by decide +kernel) (by decide +kernel), TBL_mk 70 (by decide +kernel) (by decide +kernel), by decide +kernel, kt_mk (by decide +kernel), kt_ot (by decide +kernel)⟩
end
section
/-! the memory as functions: kind of a cell, int fields, reference fields, arrays; field k of class c is 64 * c + k -/
abbrev Mm : Type := (Nat → Nat) × (Nat → Nat → Int) × (Nat → Nat → Option Nat) × (Nat → Nat) × (Nat → Nat → Int) × (Nat → Nat → Option Nat)
def gK (X : Mm) : Nat → Nat := X.1
def gI (X : Mm) : Nat → Nat → Int := X.2.1
def gP (X : Mm) : Nat → Nat → Option Nat := X.2.2.1
def gN (X : Mm) : Nat → Nat := X.2.2.2.1
def gA (X : Mm) : Nat → Nat → Int := X.2.2.2.2.1
def gO (X : Mm) : Nat → Nat → Option Nat := X.2.2.2.2.2
def u1 {α : Type} (g : Nat → α) (a : Nat) (v : α) : Nat → α := fun x => if x = a then v else g x
def u2 {α : Type} (g : Nat → Nat → α) (f a : Nat) (v : α) : Nat → Nat → α := fun y x => if y = f ∧ x = a then v else g y x
def sI (X : Mm) (f a : Nat) (v : Int) : Mm := (gK X, u2 (gI X) f a v, gP X, gN X, gA X, gO X)
def sP (X : Mm) (f a : Nat) (v : Option Nat) : Mm := (gK X, gI X, u2 (gP X) f a v, gN X, gA X, gO X)
def sA (X : Mm) (a i : Nat) (v : Int) : Mm := (gK X, gI X, gP X, gN X, u2 (gA X) a i v, gO X)
def sO (X : Mm) (a i : Nat) (v : Option Nat) : Mm := (gK X, gI X, gP X, gN X, gA X, u2 (gO X) a i v)
/-- a whole row -/
def sAr (X : Mm) (a : Nat) (f : Nat → Int) : Mm := (gK X, gI X, gP X, gN X, u1 (gA X) a f, gO X)
def sOr (X : Mm) (a : Nat) (f : Nat → Option Nat) : Mm := (gK X, gI X, gP X, gN X, gA X, u1 (gO X) a f)
/-- a new object, of kind t; a new array of n places -/
def alO (X : Mm) (a t : Nat) : Mm := (u1 (gK X) a t, fun f x => if x = a then 0 else gI X f x, fun f x => if x = a then none else gP X f x, gN X, gA X, gO X)
def alA (X : Mm) (a t n : Nat) : Mm := (u1 (gK X) a t, gI X, gP X, u1 (gN X) a n, fun x i => if x = a then 0 else gA X x i, fun x i => if x = a then none else gO X x i)
theorem gI_sI (X : Mm) (f a : Nat) (v : Int) (g x : Nat) : gI (sI X f a v) g x = if g = f ∧ x = a then v else gI X g x := rfl
theorem gI_sP (X : Mm) (f a : Nat) (v : Option Nat) : gI (sP X f a v) = gI X := rfl
theorem gI_sA (X : Mm) (a i : Nat) (v : Int) : gI (sA X a i v) = gI X := rfl
theorem gI_sO (X : Mm) (a i : Nat) (v : Option Nat) : gI (sO X a i v) = gI X := rfl
theorem gP_sP (X : Mm) (f a : Nat) (v : Option Nat) (g x : Nat) : gP (sP X f a v) g x = if g = f ∧ x = a then v else gP X g x := rfl
theorem gP_sI (X : Mm) (f a : Nat) (v : Int) : gP (sI X f a v) = gP X := rfl
theorem gP_sA (X : Mm) (a i : Nat) (v : Int) : gP (sA X a i v) = gP X := rfl
theorem gP_sO (X : Mm) (a i : Nat) (v : Option Nat) : gP (sO X a i v) = gP X := rfl
theorem gA_sA (X : Mm) (a i : Nat) (v : Int) (x j : Nat) : gA (sA X a i v) x j = if x = a ∧ j = i then v else gA X x j := rfl
theorem gA_sI (X : Mm) (f a : Nat) (v : Int) : gA (sI X f a v) = gA X := rfl
theorem gA_sP (X : Mm) (f a : Nat) (v : Option Nat) : gA (sP X f a v) = gA X := rfl
theorem gA_sO (X : Mm) (a i : Nat) (v : Option Nat) : gA (sO X a i v) = gA X := rfl
theorem gO_sO (X : Mm) (a i : Nat) (v : Option Nat) (x j : Nat) : gO (sO X a i v) x j = if x = a ∧ j = i then v else gO X x j := rfl
theorem gO_sI (X : Mm) (f a : Nat) (v : Int) : gO (sI X f a v) = gO X := rfl
theorem gO_sP (X : Mm) (f a : Nat) (v : Option Nat) : gO (sP X f a v) = gO X := rfl
theorem gO_sA (X : Mm) (a i : Nat) (v : Int) : gO (sA X a i v) = gO X := rfl
theorem gK_sI (X : Mm) (f a : Nat) (v : Int) : gK (sI X f a v) = gK X := rfl
theorem gK_sP (X : Mm) (f a : Nat) (v : Option Nat) : gK (sP X f a v) = gK X := rfl
theorem gK_sA (X : Mm) (a i : Nat) (v : Int) : gK (sA X a i v) = gK X := rfl
theorem gK_sO (X : Mm) (a i : Nat) (v : Option Nat) : gK (sO X a i v) = gK X := rfl
theorem gN_sI (X : Mm) (f a : Nat) (v : Int) : gN (sI X f a v) = gN X := rfl
theorem gN_sP (X : Mm) (f a : Nat) (v : Option Nat) : gN (sP X f a v) = gN X := rfl
theorem gN_sA (X : Mm) (a i : Nat) (v : Int) : gN (sA X a i v) = gN X := rfl
theorem gN_sO (X : Mm) (a i : Nat) (v : Option Nat) : gN (sO X a i v) = gN X := rfl
def fl (c : Nat) (X : Mm) (a : Nat) : List Value := (List.range (nF c)).map fun k => if isR c k then rv (gP X (64 * c + k) a) else iv (gI X (64 * c + k) a)
def cE (kA : Nat → ClassId) (X : Mm) (a : Nat) : Option va_E :=
  if gK X a = 0 then none
  else if gK X a < 20 then some (.inr (gK X a - 1, fl (gK X a - 1) X a))
  else if gK X a = 20 then some (.inl (kA 0, gN X a, .inl fun i => zI (gA X a i)))
  else if gK X a = 21 then some (.inl (kA 1, gN X a, .inl fun i => zI (gA X a i)))
  else if gK X a = 22 then some (.inl (kA 2, gN X a, .inr (.inl fun i => zL (gA X a i))))
  else some (.inl (kA 3, gN X a, .inr (.inr (.inr (.inr (gO X a))))))
theorem cE_ext {kA : Nat → ClassId} {X Y : Mm} {a : Nat} (h1 : gK Y a = gK X a) (h2 : ∀ f, gI Y f a = gI X f a) (h3 : ∀ f, gP Y f a = gP X f a) (h4 : gN Y a = gN X a) (h5 : ∀ i, gA Y a i = gA X a i) (h6 : ∀ i, gO Y a i = gO X a i) : cE kA Y a = cE kA X a := by
  have hfl : ∀ c, fl c Y a = fl c X a := fun c => by
    unfold fl
    exact List.map_congr_left fun k _ => by rw [h2, h3]
  have e5 : gA Y a = gA X a := funext h5
  have e6 : gO Y a = gO X a := funext h6
  unfold cE
  rw [h1, h4, e5, e6, hfl]
theorem fl_len (c : Nat) (X : Mm) (a : Nat) : (fl c X a).length = nF c := by simp [fl]
theorem fl_get {c k : Nat} (X : Mm) (a : Nat) (hk : k < nF c) : (fl c X a)[k]? = some (if isR c k then rv (gP X (64 * c + k) a) else iv (gI X (64 * c + k) a)) := by
  simp [fl, hk]
theorem fl_sI {c k : Nat} (X : Mm) (a : Nat) (v : Int) (hr : isR c k = false) : fl c (sI X (64 * c + k) a v) a = (fl c X a).set k (iv v) := by
  refine List.ext_getElem? fun j => ?_
  by_cases hj : j < nF c
  · rw [fl_get _ _ hj, List.getElem?_set]
    by_cases e : k = j
    · subst e
      rw [if_pos rfl, if_pos (show k < (fl c X a).length by rw [fl_len]; exact hj)]
      simp [hr, gI_sI]
    · rw [if_neg e, fl_get _ _ hj, gI_sI, gP_sI]
      simp [Ne.symm e]
  · rw [List.getElem?_eq_none (by rw [fl_len]; omega), List.getElem?_eq_none (by rw [List.length_set, fl_len]; omega)]
theorem fl_sP {c k : Nat} (X : Mm) (a : Nat) (v : Option Nat) (hr : isR c k = true) : fl c (sP X (64 * c + k) a v) a = (fl c X a).set k (rv v) := by
  refine List.ext_getElem? fun j => ?_
  by_cases hj : j < nF c
  · rw [fl_get _ _ hj, List.getElem?_set]
    by_cases e : k = j
    · subst e
      rw [if_pos rfl, if_pos (show k < (fl c X a).length by rw [fl_len]; exact hj)]
      simp [hr, gP_sP]
    · rw [if_neg e, fl_get _ _ hj, gP_sP, gI_sP]
      simp [Ne.symm e]
  · rw [List.getElem?_eq_none (by rw [fl_len]; omega), List.getElem?_eq_none (by rw [List.length_set, fl_len]; omega)]
/-- what a method may change: all that came behind the law's start -/
def Ab (b : Nat) : Nat → Prop := fun q => b ≤ q
/-- a cell of the start that nobody changes: an array of references, of which only class and length are known -/
def wk (k3 : ClassId) (a : Nat) (E : va_E) (H : Heap) : Prop := ∃ cell : Cell, H[a]? = some cell ∧ cell.cls = k3 ∧ (∀ k, cell.vm ≠ .statics k) ∧ cell.vm ≠ .unknown ∧ ∀ x, E = .inl x → cell.slots.size.toInt32 = Int32.ofNat x.2.1
theorem wk.kept {k3 : ClassId} {a : Nat} {E : va_E} {H H1 : Heap} (h : wk k3 a E H) (hq : H1[a]? = H[a]?) : wk k3 a E H1 := by
  obtain ⟨cell, h1, h2⟩ := h
  exact ⟨cell, hq.trans h1, h2⟩
def wd (D : va_G) (kA : Nat → ClassId) (b : Nat) (X : Mm) (H : Heap) : Prop := ∀ (a : Nat) (E : va_E), cE kA X a = some E → (gK X a ≠ 24 → va_at D vwCl (a, E) H) ∧ (gK X a = 24 → wk (kA 3) a E H) ∧ (gK X a = 24 ↔ a < b)
theorem wd.lt {D : va_G} {kA : Nat → ClassId} {b : Nat} {X : Mm} {H : Heap} (h : wd D kA b X H) {a : Nat} {E : va_E} (he : cE kA X a = some E) : a < H.size := by
  obtain ⟨h1, h2, -⟩ := h a E he
  by_cases e : gK X a = 24
  · obtain ⟨cell, g, -⟩ := h2 e
    exact (Array.getElem?_eq_some_iff.mp g).1
  · exact (h1 e).lt
theorem wd.kept {D : va_G} {kA : Nat → ClassId} {b : Nat} {X : Mm} {H H1 : Heap} (h : wd D kA b X H) (hq : ∀ q : Nat, q < H.size → H1[q]? = H[q]?) : wd D kA b X H1 := fun a E hE => ⟨fun hn => ((h a E hE).1 hn).kept (hq a (h.lt hE)), fun hn => ((h a E hE).2.1 hn).kept (hq a (h.lt hE)), (h a E hE).2.2⟩
theorem wd.P1 {D : va_G} {kA : Nat → ClassId} {b : Nat} {X : Mm} {H : Heap} {a : Nat} {E : va_E} (h : wd D kA b X H) (he : cE kA X a = some E) (hn : gK X a ≠ 24 := by omega) : va_P D vwCl [(a, E)] H := by
  intro k q hk
  have hz : k < 1 := (List.getElem?_eq_some_iff.mp hk).1
  rw [show k = 0 by omega] at hk
  cases hk
  exact (h a E he).1 hn
/-- the memory as a list of cells -/
def lsW (kA : Nat → ClassId) (X : Mm) (n : Nat) : va_W := (List.range n).filterMap fun q => if gK X q = 24 then none else (cE kA X q).map fun E => (q, E)
theorem lsW_mem {kA : Nat → ClassId} {X : Mm} {n : Nat} {q : Nat × va_E} (h : q ∈ lsW kA X n) : cE kA X q.1 = some q.2 ∧ gK X q.1 ≠ 24 := by
  obtain ⟨r, -, hr⟩ := List.mem_filterMap.mp h
  split at hr
  · cases hr
  · rename_i hn
    cases hc : cE kA X r with
    | none => rw [hc] at hr; cases hr
    | some E => rw [hc] at hr; cases hr; exact ⟨hc, hn⟩
theorem lsW_of {kA : Nat → ClassId} {X : Mm} {n a : Nat} {E : va_E} (ha : a < n) (h : cE kA X a = some E) (hn : gK X a ≠ 24) : ∃ k : Nat, (lsW kA X n)[k]? = some (a, E) := by
  refine List.getElem?_of_mem (List.mem_filterMap.mpr ⟨a, List.mem_range.mpr ha, ?_⟩)
  rw [if_neg hn, h]
  rfl
theorem lsW_inj (kA : Nat → ClassId) (X : Mm) : ∀ (n i j : Nat) (p q : Nat × va_E), (lsW kA X n)[i]? = some p → (lsW kA X n)[j]? = some q → p.1 = q.1 → i = j := by
  intro n
  induction n with
  | zero => intro i j p q h; simp [lsW] at h
  | succ n ih =>
    have e : lsW kA X (n + 1) = lsW kA X n ++ (if gK X n = 24 then [] else match cE kA X n with | none => [] | some E => [(n, E)]) := by
      unfold lsW
      rw [List.range_succ, List.filterMap_append]
      congr 1
      by_cases hn : gK X n = 24
      · simp [hn]
      · cases hc : cE kA X n <;> simp [hn, hc]
    have low : ∀ (i : Nat) (p : Nat × va_E), (lsW kA X n)[i]? = some p → p.1 < n := fun i p h => by
      obtain ⟨r, h1, hr⟩ := List.mem_filterMap.mp (List.mem_of_getElem? h)
      split at hr
      · cases hr
      · cases hc : cE kA X r with
        | none => rw [hc] at hr; cases hr
        | some E => rw [hc] at hr; cases hr; exact List.mem_range.mp h1
    have last : ∀ (i : Nat) (p : Nat × va_E), (lsW kA X (n + 1))[i]? = some p → (lsW kA X n)[i]? = some p ∨ (i = (lsW kA X n).length ∧ p.1 = n) := by
      intro i p h
      rw [e] at h
      by_cases hl : i < (lsW kA X n).length
      · rw [List.getElem?_append_left hl] at h
        exact Or.inl h
      · rw [List.getElem?_append_right (by omega)] at h
        by_cases hn : gK X n = 24
        · rw [if_pos hn] at h
          simp at h
        · rw [if_neg hn] at h
          cases hc : cE kA X n with
          | none => rw [hc] at h; simp at h
          | some E =>
            rw [hc] at h
            dsimp only at h
            have hz := (List.getElem?_eq_some_iff.mp h).1
            have hz : i - (lsW kA X n).length < 1 := hz
            have hi : i = (lsW kA X n).length := by omega
            rw [hi, Nat.sub_self] at h
            cases h
            exact Or.inr ⟨hi, rfl⟩
    intro i j p q hi hj hpq
    rcases last i p hi with h1 | ⟨h1, h2⟩ <;> rcases last j q hj with h3 | ⟨h3, h4⟩
    · exact ih i j p q h1 h3 hpq
    · have := low i p h1
      omega
    · have := low j q h3
      omega
    · omega
theorem wd.PD {D : va_G} {kA : Nat → ClassId} {b : Nat} {X : Mm} {H : Heap} (h : wd D kA b X H) : va_P D vwCl (lsW kA X H.size) H ∧ va_D (Ab b) (lsW kA X H.size) := by
  refine ⟨fun k q hk => (h q.1 q.2 (lsW_mem (List.mem_of_getElem? hk)).1).1 (lsW_mem (List.mem_of_getElem? hk)).2, lsW_inj kA X H.size, fun k q hk => ?_⟩
  obtain ⟨h1, h2⟩ := lsW_mem (List.mem_of_getElem? hk)
  have := (h q.1 q.2 h1).2.2
  exact Nat.not_lt.mp fun z => h2 (this.mpr z)
theorem wd.at {D : va_G} {kA : Nat → ClassId} {b : Nat} {X : Mm} {H : Heap} {a : Nat} {E : va_E} (h : wd D kA b X H) (he : cE kA X a = some E) (hn : gK X a ≠ 24) : ∃ k : Nat, (lsW kA X H.size)[k]? = some (a, E) := lsW_of (h.lt he) he hn
/-- one cell changes -/
theorem wd.set {D : va_G} {kA : Nat → ClassId} {b : Nat} {X Y : Mm} {H H0 H1 : Heap} {locs locs1 : List Loc} {a k : Nat} {E E1 : va_E} (h : wd D kA b X H) (hb : b ≤ H0.size) (hS : va_S (Ab b) H0 H locs) (hS1 : va_S (Ab b) H0 H1 locs1) (hk : (lsW kA X H.size)[k]? = some (a, E))
    (hP : va_P D vwCl ((lsW kA X H.size).set k (a, E1)) H1) (he : cE kA Y a = some E1) (hKa : gK Y a = gK X a) (hY : ∀ q : Nat, q ≠ a → cE kA Y q = cE kA X q ∧ gK Y q = gK X q) : wd D kA b Y H1 := by
  have hl := (List.getElem?_eq_some_iff.mp hk).1
  obtain ⟨hEa, hna⟩ := lsW_mem (List.mem_of_getElem? hk)
  dsimp only at hEa hna
  intro q F hF
  by_cases e : q = a
  · subst e
    cases he.symm.trans hF
    exact ⟨fun _ => hP k (q, E1) (List.getElem?_set_self hl), fun z => absurd (hKa.symm.trans z) hna, by rw [hKa]; exact (h q E hEa).2.2⟩
  · obtain ⟨h1, h2⟩ := hY q e
    rw [h1] at hF
    have hlt := h.lt hF
    obtain ⟨h3, h5, h4⟩ := h q F hF
    rw [h2]
    refine ⟨fun hz => ?_, fun hz => ?_, h4⟩
    rotate_left
    · have hqb : ¬ Ab b q := Nat.not_le.mpr (h4.mp hz)
      have hql : q < H0.size := Nat.lt_of_lt_of_le (h4.mp hz) hb
      exact (h5 hz).kept ((hS1.2.1 q hql hqb).trans (hS.2.1 q hql hqb).symm)
    · obtain ⟨j, hj⟩ := lsW_of (n := H.size) hlt hF hz
      have hjk : k ≠ j := fun z => by
        subst z
        rw [hk] at hj
        cases hj
        exact e rfl
      exact hP j (q, F) (by rw [List.getElem?_set_ne hjk]; exact hj)
/-- a cell more -/
theorem wd.push {D : va_G} {kA : Nat → ClassId} {b : Nat} {X Y : Mm} {H H0 H1 : Heap} {locs locs1 : List Loc} {a : Nat} {E1 : va_E} (h : wd D kA b X H) (hb : b ≤ H0.size) (hS : va_S (Ab b) H0 H locs) (hS1 : va_S (Ab b) H0 H1 locs1)
    (hP : va_P D vwCl (lsW kA X H.size ++ [(a, E1)]) H1) (hD : va_D (Ab b) (lsW kA X H.size ++ [(a, E1)])) : gK X a = 0 ∧ b ≤ a ∧ (cE kA Y a = some E1 → gK Y a ≠ 24 → (∀ q : Nat, q ≠ a → cE kA Y q = cE kA X q ∧ gK Y q = gK X q) → wd D kA b Y H1) := by
  have hlast : (lsW kA X H.size ++ [(a, E1)])[(lsW kA X H.size).length]? = some (a, E1) := by rw [List.getElem?_append_right (Nat.le_refl _), Nat.sub_self]; rfl
  have hba : b ≤ a := hD.2 _ _ hlast
  have h0 : gK X a = 0 := by
    refine Classical.byContradiction fun hn => ?_
    have : ∃ E, cE kA X a = some E := by
      unfold cE
      rw [if_neg hn]
      repeat' split
      all_goals exact ⟨_, rfl⟩
    obtain ⟨E, hE⟩ := this
    have h24 : gK X a ≠ 24 := fun z => by
      have := (h a E hE).2.2.mp z
      omega
    obtain ⟨j, hj⟩ := lsW_of (n := H.size) (h.lt hE) hE h24
    have hjl := (List.getElem?_eq_some_iff.mp hj).1
    have := hD.1 j _ (a, E) (a, E1) (by rw [List.getElem?_append_left hjl]; exact hj) hlast rfl
    omega
  refine ⟨h0, hba, fun he hn hY => ?_⟩
  intro q F hF
  by_cases e : q = a
  · subst e
    cases he.symm.trans hF
    exact ⟨fun _ => hP _ _ hlast, fun z => absurd z hn, ⟨fun z => absurd z hn, fun z => by omega⟩⟩
  · obtain ⟨h1, h2⟩ := hY q e
    rw [h1] at hF
    have hlt := h.lt hF
    obtain ⟨h3, h5, h4⟩ := h q F hF
    rw [h2]
    refine ⟨fun hz => ?_, fun hz => ?_, h4⟩
    rotate_left
    · have hqb : ¬ Ab b q := Nat.not_le.mpr (h4.mp hz)
      have hql : q < H0.size := Nat.lt_of_lt_of_le (h4.mp hz) hb
      exact (h5 hz).kept ((hS1.2.1 q hql hqb).trans (hS.2.1 q hql hqb).symm)
    · obtain ⟨j, hj⟩ := lsW_of (n := H.size) hlt hF hz
      have hjl := (List.getElem?_eq_some_iff.mp hj).1
      exact hP j (q, F) (by rw [List.getElem?_append_left hjl]; exact hj)
theorem cE_obj {kA : Nat → ClassId} {X : Mm} {a c : Nat} (h : gK X a = c + 1) (hc : c < 19) : cE kA X a = some (.inr (c, fl c X a)) := by
  unfold cE
  rw [h, if_neg (by omega), if_pos (by omega), Nat.add_sub_cancel]
theorem cE_20 {kA : Nat → ClassId} {X : Mm} {a : Nat} (h : gK X a = 20) : cE kA X a = some (.inl (kA 0, gN X a, .inl fun i => zI (gA X a i))) := by simp [cE, h]
theorem cE_21 {kA : Nat → ClassId} {X : Mm} {a : Nat} (h : gK X a = 21) : cE kA X a = some (.inl (kA 1, gN X a, .inl fun i => zI (gA X a i))) := by simp [cE, h]
theorem cE_22 {kA : Nat → ClassId} {X : Mm} {a : Nat} (h : gK X a = 22) : cE kA X a = some (.inl (kA 2, gN X a, .inr (.inl fun i => zL (gA X a i)))) := by simp [cE, h]
theorem cE_23 {kA : Nat → ClassId} {X : Mm} {a : Nat} (h : gK X a = 23 ∨ gK X a = 24) : cE kA X a = some (.inl (kA 3, gN X a, .inr (.inr (.inr (.inr (gO X a)))))) := by rcases h with h | h <;> simp [cE, h]
end
section
/-! the walk over the memory: V says that the machine comes to its end from here, in every heap that holds the memory X -/
def tysA (kA : Nat → ClassId) : List (ClassId × FieldType) := [(kA 0, .int), (kA 1, .boolean), (kA 2, .long), (kA 3, .object "java/lang/Object")]
theorem NW_warm {s U : State} (hW : s.WarmedH U.vm) (h : ∀ w ∈ NW, va_Nw w s) : ∀ w ∈ NW, va_Nw w U := by
  intro w hw
  have h1 := h w hw
  rcases List.mem_append.mp hw with h2 | h2
  · obtain ⟨x, -, rfl⟩ := List.mem_map.mp h2
    exact va_Nw.warmD hW h1
  · rcases List.mem_append.mp h2 with h2 | h2
    · obtain ⟨x, -, rfl⟩ := List.mem_map.mp h2
      exact va_Nw.warmC hW h1
    · obtain ⟨x, -, rfl⟩ := List.mem_map.mp h2
      exact va_Nw.warmM hW h1
theorem NW_on : ∀ w ∈ NW, w.onTables = true := by
  intro w hw
  rcases List.mem_append.mp hw with h2 | h2
  · obtain ⟨x, -, rfl⟩ := List.mem_map.mp h2
    rfl
  · rcases List.mem_append.mp h2 with h2 | h2
    · obtain ⟨x, -, rfl⟩ := List.mem_map.mp h2
      rfl
    · obtain ⟨x, -, rfl⟩ := List.mem_map.mp h2
      rfl
/-- what the start gives of cells that nobody here changes -/
def FX (b t0 : Nat) (U : State) (H : Heap) : Prop :=
  (vx_Zq Bundle.tN "UNASSIGNED_STACK" Bundle.steD (Ab b) U H ∧ vx_Zq Bundle.tN "SUPPRESSED_SENTINEL" Bundle.listD (Ab b) U H ∧ va_Z "java/util/ArrayList" "DEFAULTCAPACITY_EMPTY_ELEMENTDATA" "[Ljava/lang/Object;" (.ref t0) (Ab b) U H) ∧ (∃ mi, va_Mi "[Ljava/lang/Object;" mi U) ∧ va_Dc U ∧ (∀ q ∈ strC, ∃ sa, vk_R q.1 q.2.1 q.2.2 sa U) ∧ va_Nc "java/lang/IllegalArgumentException" "java/lang/IndexOutOfBoundsException" U ∧ va_Nc "java/lang/IllegalStateException" "java/lang/IndexOutOfBoundsException" U ∧ va_Nc "java/lang/IllegalStateException" "java/lang/IllegalArgumentException" U ∧ (∀ w ∈ NW, va_Nw w U) ∧ va_AO "java/lang/Object" U
theorem FX.warm {b t0 : Nat} {s U : State} {H : Heap} (hW : s.WarmedH U.vm) (h : FX b t0 s H) : FX b t0 U H := by
  obtain ⟨⟨h1, h2, h3⟩, ⟨mi, h4⟩, h5, h6, h7, h8, h9, h10, h11⟩ := h
  exact ⟨⟨h1.moved hW.alike, h2.moved hW.alike, h3.moved hW.alike⟩, ⟨mi, h4.moved hW.alike⟩, h5.moved hW.alike, fun q hq => by obtain ⟨sa, h⟩ := h6 q hq; exact ⟨sa, h.warm hW⟩, h7.moved hW.alike, h8.moved hW.alike, h9.moved hW.alike, NW_warm hW h10, h11.moved hW.alike⟩
theorem FX.calling {b t0 : Nat} {U : State} {H : Heap} (g : JFrame) (mk : MethodId) (a : Array Value) (h : FX b t0 U H) : FX b t0 (U.calling g mk a) H := by
  obtain ⟨⟨h1, h2, h3⟩, ⟨mi, h4⟩, h5, h6, h7, h8, h9, h10, h11⟩ := h
  have r : U.vm.Alike (U.calling g mk a).vm := Vm.Alike.refl U.vm
  exact ⟨⟨h1.moved r, h2.moved r, h3.moved r⟩, ⟨mi, h4.moved r⟩, h5.moved r, fun q hq => by obtain ⟨sa, h⟩ := h6 q hq; exact ⟨sa, vk_R.same rfl h⟩, h7.moved r, h8.moved r, h9.moved r, fun w hw => va_Nw.same (u := U) (U := U.calling g mk a) (NW_on w hw) rfl (h10 w hw), h11.moved r⟩
theorem FX.kept {b t0 : Nat} {U : State} {H H1 : Heap} (h : FX b t0 U H) (hq : ∀ a : Nat, a < H.size → ¬ Ab b a → H1[a]? = H[a]?) : FX b t0 U H1 := by
  obtain ⟨⟨h1, h2, h3⟩, h4⟩ := h
  exact ⟨⟨h1.kept hq, h2.kept hq, h3.kept hq⟩, h4⟩
/-- a method's start -/
def Pw (D : va_G) (kA : Nat → ClassId) (b t0 : Nat) (X : Mm) (U : State) : Prop := wd D kA b X U.heap ∧ va_K D vwCl (tysA kA) U ∧ FX b t0 U U.heap ∧ b ≤ U.heap.size
/-- its end, and its end by an exception of the class E -/
def Qk (D : va_G) (kA : Nat → ClassId) (b : Nat) (post : Option Value → Mm → Prop) : Array Value → State → Outcome → State → Prop := fun _ st o t => (∃ (v : Option Value) (Y : Mm), o = .returned v ∧ post v Y ∧ wd D kA b Y t.heap) ∧ va_F (Ab b) st t
def Xk (D : va_G) (kA : Nat → ClassId) (b : Nat) (px : String → Mm → Prop) : String → State → State → Prop := fun E st t => (∃ Y : Mm, px E Y ∧ wd D kA b Y t.heap) ∧ va_F (Ab b) st t
/-- the contract of the method y (code cc, n locals, answer of type ret), in the memory X with the arguments av: at most mc cells of ms slots are made, post holds of answer and memory, or px of the exception's class and the memory -/
def Ct (l : Launch) (D : va_G) (kA : Nat → ClassId) (b t0 : Nat) (y : MethodName) (cc : ByteArray) (n : Nat) (ret : Option FieldType) (fr lc : Nat) (av : List Value) (X : Mm) (mc ms : Nat) (post : Option Value → Mm → Prop) (px : String → Mm → Prop) : Prop :=
  vx_Met l y (.code y cc n ret :: TBL) { frames := fr, cells := mc, slots := ms, locals := lc } (va_Pc av (Pw D kA b t0 X)) (Qk D kA b post) (Xk D kA b px) mc ms (Ab b)
/-- the locals -/
def lvO (ls : Array Slot) (nL : Nat) (lv : List (Option Value)) : Prop := ls.size = nL ∧ lv_wf ls ∧ ∀ (i : Nat) (v : Value), lv[i]? = some (some v) → ls[i]? = some (.val v)
def asc (lv : List (Option Value)) : List (Nat × Value) := lv.zipIdx.filterMap fun q => q.1.map fun v => (q.2, v)
theorem asc_mem {lv : List (Option Value)} {i : Nat} {v : Value} : (i, v) ∈ asc lv ↔ lv[i]? = some (some v) := by
  unfold asc
  rw [List.mem_filterMap]
  constructor
  · rintro ⟨⟨o, j⟩, hm, h⟩
    have := List.mem_zipIdx_iff_getElem?.mp hm
    cases o with
    | none => cases h
    | some w => cases h; exact this
  · intro h
    exact ⟨(some v, i), List.mem_zipIdx_iff_getElem?.mpr h, rfl⟩
theorem lvO.has {ls : Array Slot} {nL : Nat} {lv : List (Option Value)} (h : lvO ls nL lv) : lv_has ls nL (asc lv) := ⟨h.1, h.2.1, fun q hq => h.2.2 q.1 q.2 (asc_mem.mp hq)⟩
def okS (lv : List (Option Value)) (i : Nat) : Bool := match i with
  | 0 => true
  | j + 1 => match lv[j]? with
    | some (some v) => !(v.category == 2)
    | _ => true
theorem lvO_st {ls : Array Slot} {nL i : Nat} {w : Value} {lv : List (Option Value)} (h : lv_has ls nL ((i, w) :: (asc lv).filter (fun q => !(q.1 == i) && !(q.1 + 1 == i && q.2.category == 2)))) (hk : okS lv i = true) : lvO ls nL (lv.set i (some w)) := by
  refine ⟨h.1, h.2.1, fun j v hj => ?_⟩
  rw [List.getElem?_set] at hj
  by_cases e : i = j
  · subst e
    rw [if_pos rfl] at hj
    split at hj
    · cases hj
      exact h.2.2 (i, w) List.mem_cons_self
    · cases hj
  · rw [if_neg e] at hj
    refine h.2.2 (j, v) (List.mem_cons_of_mem _ (List.mem_filter.mpr ⟨asc_mem.mpr hj, ?_⟩))
    have h1 : (j == i) = false := by simp; omega
    rw [h1]
    by_cases e2 : j + 1 = i
    · subst e2
      simp only [okS, hj] at hk
      simp only [beq_self_eq_true, Bool.true_and, Bool.not_false]
      exact hk
    · have h2 : (j + 1 == i) = false := by simp; omega
      rw [h2]
      rfl
theorem lvO_st2 {ls : Array Slot} {nL i : Nat} {w : Value} {lv : List (Option Value)} (h : lv_has ls nL ((i, w) :: (asc lv).filter (fun q => !(q.1 == i) && (!(q.1 == i + 1) && !(q.1 + 1 == i && q.2.category == 2))))) (hk : okS lv i = true) : lvO ls nL ((lv.set i (some w)).set (i + 1) none) := by
  refine ⟨h.1, h.2.1, fun j v hj => ?_⟩
  rw [List.getElem?_set] at hj
  by_cases e0 : i + 1 = j
  · subst e0
    rw [if_pos rfl] at hj
    split at hj <;> cases hj
  rw [if_neg e0, List.getElem?_set] at hj
  by_cases e : i = j
  · subst e
    rw [if_pos rfl] at hj
    split at hj
    · cases hj
      exact h.2.2 (i, w) List.mem_cons_self
    · cases hj
  · rw [if_neg e] at hj
    refine h.2.2 (j, v) (List.mem_cons_of_mem _ (List.mem_filter.mpr ⟨asc_mem.mpr hj, ?_⟩))
    have h1 : (j == i) = false := by simp; omega
    have h3 : (j == i + 1) = false := by simp; omega
    rw [h1, h3]
    by_cases e2 : j + 1 = i
    · subst e2
      simp only [okS, hj] at hk
      simp only [beq_self_eq_true, Bool.true_and, Bool.not_false]
      exact hk
    · have h2 : (j + 1 == i) = false := by simp; omega
      rw [h2]
      rfl
theorem lv_args_mem : ∀ (vs : List Value) (o j : Nat) (v : Value), (∀ v ∈ vs, v.category = 1) → vs[j]? = some v → (o + j, v) ∈ lv_args o vs
  | [], _, _, _, _, h => by simp at h
  | w :: vs, o, 0, v, hc, h => by
    simp at h
    subst h
    simp [lv_args]
  | w :: vs, o, j + 1, v, hc, h => by
    rw [List.getElem?_cons_succ] at h
    have h2 := lv_args_mem vs (o + 1) j v (fun x hx => hc x (List.mem_cons_of_mem _ hx)) h
    have hw := hc w List.mem_cons_self
    rw [show o + (j + 1) = o + 1 + j by omega]
    simp [lv_args, hw, h2]
section VS
variable {p : Program} {l : Launch} {e : Env} {R : Room} {s : State} {m : MethodId} {args : Array Value} {below : List Frame} {meth : Method} {c : Code}
variable {D : va_G} {kA : Nat → ClassId} {b t0 nL cells slots : Nat} {Q : State → Prop} {own nm : String} {cc : ByteArray} {X : Mm} {pc pc' tgt : Nat} {lv : List (Option Value)} {st : List Value}
/-- what a method knows of itself -/
def Cx (p : Program) (l : Launch) (s : State) (m : MethodId) (args : Array Value) (meth : Method) (c : Code) (D : va_G) (kA : Nat → ClassId) (b t0 nL : Nat) (own nm : String) (cc : ByteArray) : Prop :=
  p.tables.exec = Jvm.exec ∧ c.code = cc ∧ c.maxLocals = nL ∧ s.vm.findClass own = some m.cls ∧ (∀ w ∈ TBL, w.before args s = true) ∧ meth.locks = false ∧ va_K D vwCl (tysA kA) s ∧ FX b t0 s s.heap ∧ l.stackTraces = false ∧ b ≤ s.heap.size ∧ meth.name = nm
def V (p : Program) (l : Launch) (e : Env) (R : Room) (s : State) (m : MethodId) (args : Array Value) (below : List Frame) (meth : Method) (c : Code) (D : va_G) (kA : Nat → ClassId) (b nL cells slots : Nat) (Q : State → Prop) (X : Mm) (pc : Nat) (lv : List (Option Value)) (st : List Value) : Prop :=
  ∀ (H : Heap) (locs : List Loc) (ls : Array Slot), wd D kA b X H → va_S (Ab b) s.heap H locs → lvO ls nL lv → W p l e R s m args below meth c H locs cells slots Q (F0 m pc ls st)
/-- .. with an exception of the class E under way -/
def VX (p : Program) (l : Launch) (e : Env) (R : Room) (s : State) (m : MethodId) (args : Array Value) (below : List Frame) (meth : Method) (c : Code) (D : va_G) (kA : Nat → ClassId) (b nL cells slots : Nat) (Q : State → Prop) (X : Mm) (pc : Nat) (lv : List (Option Value)) (E : String) : Prop :=
  ∀ (H : Heap) (locs : List Loc) (ls : Array Slot) (rest : List Value) (q : Addr) (ce : Cell), wd D kA b X H → va_S (Ab b) s.heap H locs → lvO ls nL lv → H[q]? = some ce → ce.vm = .none → s.vm.findClass E = some ce.cls → vx_W p l e R s m args below meth c H locs cells slots Q (F0 m pc ls rest) q

theorem V_iconst (C : Cx p l s m args meth c D kA b t0 nL own nm cc) {n : Int} (d : DI cc pc (.iconst n) 1 pc') 
    (k : V p l e R s m args below meth c D kA b nL (cells) (slots) (Q) X (pc') (lv) (iv n :: st)) : V p l e R s m args below meth c D kA b nL (cells) (slots) (Q) X (pc) (lv) (st) := by
  obtain ⟨hx, hb, hml, hown, hts, hlk, hK, hF, hst, hbs, hnm⟩ := C
  obtain ⟨d, rfl⟩ := d
  intro H locs ls hW hS hl
  have k2 := k H locs ls hW hS hl
  exact lv_iconst hx hb d rfl k2
theorem V_bipush (C : Cx p l s m args meth c D kA b t0 nL own nm cc) {n : Int} (d : DI cc pc (.bipush n) 2 pc') (hv : (Int8.ofInt n).toInt32 = zI n)
    (k : V p l e R s m args below meth c D kA b nL (cells) (slots) (Q) X (pc') (lv) (iv n :: st)) : V p l e R s m args below meth c D kA b nL (cells) (slots) (Q) X (pc) (lv) (st) := by
  obtain ⟨hx, hb, hml, hown, hts, hlk, hK, hF, hst, hbs, hnm⟩ := C
  obtain ⟨d, rfl⟩ := d
  intro H locs ls hW hS hl
  have k2 := k H locs ls hW hS hl
  exact lv_bipush hx hb d hv k2
theorem V_sipush (C : Cx p l s m args meth c D kA b t0 nL own nm cc) {n : Int} (d : DI cc pc (.sipush n) 3 pc') (hv : (Int16.ofInt n).toInt32 = zI n)
    (k : V p l e R s m args below meth c D kA b nL (cells) (slots) (Q) X (pc') (lv) (iv n :: st)) : V p l e R s m args below meth c D kA b nL (cells) (slots) (Q) X (pc) (lv) (st) := by
  obtain ⟨hx, hb, hml, hown, hts, hlk, hK, hF, hst, hbs, hnm⟩ := C
  obtain ⟨d, rfl⟩ := d
  intro H locs ls hW hS hl
  have k2 := k H locs ls hW hS hl
  exact lv_sipush hx hb d hv k2
theorem V_ldc (C : Cx p l s m args meth c D kA b t0 nL own nm cc) {i : Nat} {n : Int} (d : DI cc pc (.ldc i) 2 pc') (hw : Cond.constant own i (zI n) ∈ TBL)
    (k : V p l e R s m args below meth c D kA b nL (cells) (slots) (Q) X (pc') (lv) (iv n :: st)) : V p l e R s m args below meth c D kA b nL (cells) (slots) (Q) X (pc) (lv) (st) := by
  obtain ⟨hx, hb, hml, hown, hts, hlk, hK, hF, hst, hbs, hnm⟩ := C
  obtain ⟨d, rfl⟩ := d
  intro H locs ls hW hS hl
  have k2 := k H locs ls hW hS hl
  exact lv_ldc hx hb hown (hts _ hw) d k2
theorem V_ldcw (C : Cx p l s m args meth c D kA b t0 nL own nm cc) {i : Nat} {n : Int} (d : DI cc pc (.ldc_w i) 3 pc') (hw : Cond.constant own i (zI n) ∈ TBL)
    (k : V p l e R s m args below meth c D kA b nL (cells) (slots) (Q) X (pc') (lv) (iv n :: st)) : V p l e R s m args below meth c D kA b nL (cells) (slots) (Q) X (pc) (lv) (st) := by
  obtain ⟨hx, hb, hml, hown, hts, hlk, hK, hF, hst, hbs, hnm⟩ := C
  obtain ⟨d, rfl⟩ := d
  intro H locs ls hW hS hl
  have k2 := k H locs ls hW hS hl
  exact lv_ldcw hx hb hown (hts _ hw) d k2
theorem V_ldc2 (C : Cx p l s m args meth c D kA b t0 nL own nm cc) {i : Nat} {n : Int} (d : DI cc pc (.ldc2_w i) 3 pc') (hw : Cond.constantLong own i (zL n) ∈ TBL)
    (k : V p l e R s m args below meth c D kA b nL (cells) (slots) (Q) X (pc') (lv) (lo n :: st)) : V p l e R s m args below meth c D kA b nL (cells) (slots) (Q) X (pc) (lv) (st) := by
  obtain ⟨hx, hb, hml, hown, hts, hlk, hK, hF, hst, hbs, hnm⟩ := C
  obtain ⟨d, rfl⟩ := d
  intro H locs ls hW hS hl
  have k2 := k H locs ls hW hS hl
  exact lv_ldc2 hx hb hown (hts _ hw) d k2
theorem V_lconst (C : Cx p l s m args meth c D kA b t0 nL own nm cc) {n : Fin 2} {z : Int} (d : DI cc pc (.lconst n) 1 pc') (hv : Int64.ofNat (n : Nat) = zL z)
    (k : V p l e R s m args below meth c D kA b nL (cells) (slots) (Q) X (pc') (lv) (lo z :: st)) : V p l e R s m args below meth c D kA b nL (cells) (slots) (Q) X (pc) (lv) (st) := by
  obtain ⟨hx, hb, hml, hown, hts, hlk, hK, hF, hst, hbs, hnm⟩ := C
  obtain ⟨d, rfl⟩ := d
  intro H locs ls hW hS hl
  have k2 := k H locs ls hW hS hl
  exact lv_lconst hx hb d hv k2
theorem V_null (C : Cx p l s m args meth c D kA b t0 nL own nm cc)  (d : DI cc pc (.aconst_null) 1 pc') 
    (k : V p l e R s m args below meth c D kA b nL (cells) (slots) (Q) X (pc') (lv) (rv none :: st)) : V p l e R s m args below meth c D kA b nL (cells) (slots) (Q) X (pc) (lv) (st) := by
  obtain ⟨hx, hb, hml, hown, hts, hlk, hK, hF, hst, hbs, hnm⟩ := C
  obtain ⟨d, rfl⟩ := d
  intro H locs ls hW hS hl
  have k2 := k H locs ls hW hS hl
  exact lv_null hx hb d k2
theorem V_iload (C : Cx p l s m args meth c D kA b t0 nL own nm cc) {i : Nat} {z : Int} (d : DI cc pc (.iload i) 2 pc') (h : lv[(i : Nat)]? = some (some (iv z)))
    (k : V p l e R s m args below meth c D kA b nL (cells) (slots) (Q) X (pc') (lv) (iv z :: st)) : V p l e R s m args below meth c D kA b nL (cells) (slots) (Q) X (pc) (lv) (st) := by
  obtain ⟨hx, hb, hml, hown, hts, hlk, hK, hF, hst, hbs, hnm⟩ := C
  obtain ⟨d, rfl⟩ := d
  intro H locs ls hW hS hl
  have k2 := k H locs ls hW hS hl
  exact lv_iload hx hb d (hl.2.2 _ _ h) k2
theorem V_iload_n (C : Cx p l s m args meth c D kA b t0 nL own nm cc) {i : Fin 4} {z : Int} (d : DI cc pc (.iload_n i) 1 pc') (h : lv[(i : Nat)]? = some (some (iv z)))
    (k : V p l e R s m args below meth c D kA b nL (cells) (slots) (Q) X (pc') (lv) (iv z :: st)) : V p l e R s m args below meth c D kA b nL (cells) (slots) (Q) X (pc) (lv) (st) := by
  obtain ⟨hx, hb, hml, hown, hts, hlk, hK, hF, hst, hbs, hnm⟩ := C
  obtain ⟨d, rfl⟩ := d
  intro H locs ls hW hS hl
  have k2 := k H locs ls hW hS hl
  exact lv_iload_n hx hb d rfl (hl.2.2 _ _ h) k2
theorem V_lload (C : Cx p l s m args meth c D kA b t0 nL own nm cc) {i : Nat} {z : Int} (d : DI cc pc (.lload i) 2 pc') (h : lv[(i : Nat)]? = some (some (lo z)))
    (k : V p l e R s m args below meth c D kA b nL (cells) (slots) (Q) X (pc') (lv) (lo z :: st)) : V p l e R s m args below meth c D kA b nL (cells) (slots) (Q) X (pc) (lv) (st) := by
  obtain ⟨hx, hb, hml, hown, hts, hlk, hK, hF, hst, hbs, hnm⟩ := C
  obtain ⟨d, rfl⟩ := d
  intro H locs ls hW hS hl
  have k2 := k H locs ls hW hS hl
  exact lv_lload hx hb d (hl.2.2 _ _ h) k2
theorem V_lload_n (C : Cx p l s m args meth c D kA b t0 nL own nm cc) {i : Fin 4} {z : Int} (d : DI cc pc (.lload_n i) 1 pc') (h : lv[(i : Nat)]? = some (some (lo z)))
    (k : V p l e R s m args below meth c D kA b nL (cells) (slots) (Q) X (pc') (lv) (lo z :: st)) : V p l e R s m args below meth c D kA b nL (cells) (slots) (Q) X (pc) (lv) (st) := by
  obtain ⟨hx, hb, hml, hown, hts, hlk, hK, hF, hst, hbs, hnm⟩ := C
  obtain ⟨d, rfl⟩ := d
  intro H locs ls hW hS hl
  have k2 := k H locs ls hW hS hl
  exact lv_lload_n hx hb d rfl (hl.2.2 _ _ h) k2
theorem V_aload (C : Cx p l s m args meth c D kA b t0 nL own nm cc) {i : Nat} {r : Option Nat} (d : DI cc pc (.aload i) 2 pc') (h : lv[i]? = some (some (rv r)))
    (k : V p l e R s m args below meth c D kA b nL (cells) (slots) (Q) X (pc') (lv) (rv r :: st)) : V p l e R s m args below meth c D kA b nL (cells) (slots) (Q) X (pc) (lv) (st) := by
  obtain ⟨hx, hb, hml, hown, hts, hlk, hK, hF, hst, hbs, hnm⟩ := C
  obtain ⟨d, rfl⟩ := d
  intro H locs ls hW hS hl
  have k2 := k H locs ls hW hS hl
  cases r with
  | none => exact lv_aloadN hx hb d (hl.2.2 _ _ h) k2
  | some x => exact lv_aload hx hb d (hl.2.2 _ _ h) k2
theorem V_aload_n (C : Cx p l s m args meth c D kA b t0 nL own nm cc) {i : Fin 4} {r : Option Nat} (d : DI cc pc (.aload_n i) 1 pc') (h : lv[(i : Nat)]? = some (some (rv r)))
    (k : V p l e R s m args below meth c D kA b nL (cells) (slots) (Q) X (pc') (lv) (rv r :: st)) : V p l e R s m args below meth c D kA b nL (cells) (slots) (Q) X (pc) (lv) (st) := by
  obtain ⟨hx, hb, hml, hown, hts, hlk, hK, hF, hst, hbs, hnm⟩ := C
  obtain ⟨d, rfl⟩ := d
  intro H locs ls hW hS hl
  have k2 := k H locs ls hW hS hl
  cases r with
  | none => exact lv_aload_nN hx hb d rfl (hl.2.2 _ _ h) k2
  | some x => exact lv_aload_n hx hb d rfl (hl.2.2 _ _ h) k2
theorem V_istore (C : Cx p l s m args meth c D kA b t0 nL own nm cc) {i : Nat} {z : Int} (d : DI cc pc (.istore i) 2 pc') (hn : i < nL) (hk : okS lv i = true)
    (k : V p l e R s m args below meth c D kA b nL (cells) (slots) (Q) X (pc') ((lv.set i (some (iv z)))) (st)) : V p l e R s m args below meth c D kA b nL (cells) (slots) (Q) X (pc) (lv) (iv z :: st) := by
  obtain ⟨hx, hb, hml, hown, hts, hlk, hK, hF, hst, hbs, hnm⟩ := C
  obtain ⟨d, rfl⟩ := d
  intro H locs ls hW hS hl
  exact lv_istore hx hb d hl.has hn rfl (fun ls2 hl2 => k H locs ls2 hW hS (lvO_st hl2 hk))
theorem V_istore_n (C : Cx p l s m args meth c D kA b t0 nL own nm cc) {i : Fin 4} {z : Int} (d : DI cc pc (.istore_n i) 1 pc') (hn : (i : Nat) < nL) (hk : okS lv (i : Nat) = true)
    (k : V p l e R s m args below meth c D kA b nL (cells) (slots) (Q) X (pc') ((lv.set (i : Nat) (some (iv z)))) (st)) : V p l e R s m args below meth c D kA b nL (cells) (slots) (Q) X (pc) (lv) (iv z :: st) := by
  obtain ⟨hx, hb, hml, hown, hts, hlk, hK, hF, hst, hbs, hnm⟩ := C
  obtain ⟨d, rfl⟩ := d
  intro H locs ls hW hS hl
  exact lv_istore_n hx hb d rfl hl.has hn rfl (fun ls2 hl2 => k H locs ls2 hW hS (lvO_st hl2 hk))
theorem V_astore (C : Cx p l s m args meth c D kA b t0 nL own nm cc) {i a : Nat} (d : DI cc pc (.astore i) 2 pc') (hn : i < nL) (hk : okS lv i = true)
    (k : V p l e R s m args below meth c D kA b nL (cells) (slots) (Q) X (pc') ((lv.set i (some (rv (some a))))) (st)) : V p l e R s m args below meth c D kA b nL (cells) (slots) (Q) X (pc) (lv) (rv (some a) :: st) := by
  obtain ⟨hx, hb, hml, hown, hts, hlk, hK, hF, hst, hbs, hnm⟩ := C
  obtain ⟨d, rfl⟩ := d
  intro H locs ls hW hS hl
  exact lv_astore hx hb d hl.has hn rfl (fun ls2 hl2 => k H locs ls2 hW hS (lvO_st hl2 hk))
theorem V_astore_n (C : Cx p l s m args meth c D kA b t0 nL own nm cc) {i : Fin 4} {a : Nat} (d : DI cc pc (.astore_n i) 1 pc') (hn : (i : Nat) < nL) (hk : okS lv (i : Nat) = true)
    (k : V p l e R s m args below meth c D kA b nL (cells) (slots) (Q) X (pc') ((lv.set (i : Nat) (some (rv (some a))))) (st)) : V p l e R s m args below meth c D kA b nL (cells) (slots) (Q) X (pc) (lv) (rv (some a) :: st) := by
  obtain ⟨hx, hb, hml, hown, hts, hlk, hK, hF, hst, hbs, hnm⟩ := C
  obtain ⟨d, rfl⟩ := d
  intro H locs ls hW hS hl
  exact lv_astore_n hx hb d rfl hl.has hn rfl (fun ls2 hl2 => k H locs ls2 hW hS (lvO_st hl2 hk))
theorem V_lstore (C : Cx p l s m args meth c D kA b t0 nL own nm cc) {i : Nat} {z : Int} (d : DI cc pc (.lstore i) 2 pc') (hn : i + 1 < nL) (hk : okS lv i = true)
    (k : V p l e R s m args below meth c D kA b nL (cells) (slots) (Q) X (pc') ((lv.set i (some (lo z))).set (i + 1) none) (st)) : V p l e R s m args below meth c D kA b nL (cells) (slots) (Q) X (pc) (lv) (lo z :: st) := by
  obtain ⟨hx, hb, hml, hown, hts, hlk, hK, hF, hst, hbs, hnm⟩ := C
  obtain ⟨d, rfl⟩ := d
  intro H locs ls hW hS hl
  exact lv_lstore hx hb d hl.has hn rfl (fun ls2 hl2 => k H locs ls2 hW hS (lvO_st2 hl2 hk))
theorem V_lstore_n (C : Cx p l s m args meth c D kA b t0 nL own nm cc) {i : Fin 4} {z : Int} (d : DI cc pc (.lstore_n i) 1 pc') (hn : (i : Nat) + 1 < nL) (hk : okS lv (i : Nat) = true)
    (k : V p l e R s m args below meth c D kA b nL (cells) (slots) (Q) X (pc') ((lv.set (i : Nat) (some (lo z))).set ((i : Nat) + 1) none) (st)) : V p l e R s m args below meth c D kA b nL (cells) (slots) (Q) X (pc) (lv) (lo z :: st) := by
  obtain ⟨hx, hb, hml, hown, hts, hlk, hK, hF, hst, hbs, hnm⟩ := C
  obtain ⟨d, rfl⟩ := d
  intro H locs ls hW hS hl
  exact lv_lstore_n hx hb d rfl hl.has hn rfl (fun ls2 hl2 => k H locs ls2 hW hS (lvO_st2 hl2 hk))
theorem V_iinc (C : Cx p l s m args meth c D kA b t0 nL own nm cc) {i : Nat} {n z : Int} (d : DI cc pc (.iinc i n) 3 pc') (hn : i < nL) (h : lv[i]? = some (some (iv z))) (hk : okS lv i = true)
    (k : V p l e R s m args below meth c D kA b nL (cells) (slots) (Q) X (pc') (lv.set i (some (iv (z + n)))) (st)) : V p l e R s m args below meth c D kA b nL (cells) (slots) (Q) X (pc) (lv) (st) := by
  obtain ⟨hx, hb, hml, hown, hts, hlk, hK, hF, hst, hbs, hnm⟩ := C
  obtain ⟨d, rfl⟩ := d
  intro H locs ls hW hS hl
  obtain ⟨j, hj⟩ := List.getElem?_of_mem (asc_mem.mpr h)
  exact lv_iinc hx hb d hl.has hj (v := zI (z + n)) (zI_add z n) hn rfl (fun ls2 hl2 => k H locs ls2 hW hS (lvO_st hl2 hk))
theorem V_pop (C : Cx p l s m args meth c D kA b t0 nL own nm cc) {v : Value} (d : DI cc pc (.pop) 1 pc') (hv : v.category = 1)
    (k : V p l e R s m args below meth c D kA b nL (cells) (slots) (Q) X (pc') (lv) (st)) : V p l e R s m args below meth c D kA b nL (cells) (slots) (Q) X (pc) (lv) (v :: st) := by
  obtain ⟨hx, hb, hml, hown, hts, hlk, hK, hF, hst, hbs, hnm⟩ := C
  obtain ⟨d, rfl⟩ := d
  intro H locs ls hW hS hl
  have k2 := k H locs ls hW hS hl
  exact lv_pop hx hb d hv k2
theorem V_dup (C : Cx p l s m args meth c D kA b t0 nL own nm cc) {v : Value} (d : DI cc pc (.dup) 1 pc') (hv : v.category = 1)
    (k : V p l e R s m args below meth c D kA b nL (cells) (slots) (Q) X (pc') (lv) (v :: v :: st)) : V p l e R s m args below meth c D kA b nL (cells) (slots) (Q) X (pc) (lv) (v :: st) := by
  obtain ⟨hx, hb, hml, hown, hts, hlk, hK, hF, hst, hbs, hnm⟩ := C
  obtain ⟨d, rfl⟩ := d
  intro H locs ls hW hS hl
  have k2 := k H locs ls hW hS hl
  exact lv_dup hx hb d hv k2
theorem V_dup_x1 (C : Cx p l s m args meth c D kA b t0 nL own nm cc) {v w : Value} (d : DI cc pc (.dup_x1) 1 pc') (hv : v.category = 1) (hw : w.category = 1)
    (k : V p l e R s m args below meth c D kA b nL (cells) (slots) (Q) X (pc') (lv) (v :: w :: v :: st)) : V p l e R s m args below meth c D kA b nL (cells) (slots) (Q) X (pc) (lv) (v :: w :: st) := by
  obtain ⟨hx, hb, hml, hown, hts, hlk, hK, hF, hst, hbs, hnm⟩ := C
  obtain ⟨d, rfl⟩ := d
  intro H locs ls hW hS hl
  have k2 := k H locs ls hW hS hl
  exact lv_dup_x1 hx hb d hv hw k2
theorem V_dup2 (C : Cx p l s m args meth c D kA b t0 nL own nm cc) {v w : Value} (d : DI cc pc (.dup2) 1 pc') (hv : v.category = 1) (hw : w.category = 1)
    (k : V p l e R s m args below meth c D kA b nL (cells) (slots) (Q) X (pc') (lv) (v :: w :: v :: w :: st)) : V p l e R s m args below meth c D kA b nL (cells) (slots) (Q) X (pc) (lv) (v :: w :: st) := by
  obtain ⟨hx, hb, hml, hown, hts, hlk, hK, hF, hst, hbs, hnm⟩ := C
  obtain ⟨d, rfl⟩ := d
  intro H locs ls hW hS hl
  have k2 := k H locs ls hW hS hl
  exact lv_dup2_11 hx hb d hv hw k2
theorem V_iadd (C : Cx p l s m args meth c D kA b t0 nL own nm cc) {x y : Int} (d : DI cc pc (.iadd) 1 pc') 
    (k : V p l e R s m args below meth c D kA b nL (cells) (slots) (Q) X (pc') (lv) (iv (x + y) :: st)) : V p l e R s m args below meth c D kA b nL (cells) (slots) (Q) X (pc) (lv) (iv y :: iv x :: st) := by
  obtain ⟨hx, hb, hml, hown, hts, hlk, hK, hF, hst, hbs, hnm⟩ := C
  obtain ⟨d, rfl⟩ := d
  intro H locs ls hW hS hl
  have k2 := k H locs ls hW hS hl
  exact lv_iadd hx hb d (by rw [zI_add]; exact k2)
theorem V_isub (C : Cx p l s m args meth c D kA b t0 nL own nm cc) {x y : Int} (d : DI cc pc (.isub) 1 pc') 
    (k : V p l e R s m args below meth c D kA b nL (cells) (slots) (Q) X (pc') (lv) (iv (x - y) :: st)) : V p l e R s m args below meth c D kA b nL (cells) (slots) (Q) X (pc) (lv) (iv y :: iv x :: st) := by
  obtain ⟨hx, hb, hml, hown, hts, hlk, hK, hF, hst, hbs, hnm⟩ := C
  obtain ⟨d, rfl⟩ := d
  intro H locs ls hW hS hl
  have k2 := k H locs ls hW hS hl
  exact lv_isub hx hb d (by rw [zI_sub]; exact k2)
theorem V_imul (C : Cx p l s m args meth c D kA b t0 nL own nm cc) {x y : Int} (d : DI cc pc (.imul) 1 pc') 
    (k : V p l e R s m args below meth c D kA b nL (cells) (slots) (Q) X (pc') (lv) (iv (x * y) :: st)) : V p l e R s m args below meth c D kA b nL (cells) (slots) (Q) X (pc) (lv) (iv y :: iv x :: st) := by
  obtain ⟨hx, hb, hml, hown, hts, hlk, hK, hF, hst, hbs, hnm⟩ := C
  obtain ⟨d, rfl⟩ := d
  intro H locs ls hW hS hl
  have k2 := k H locs ls hW hS hl
  exact lv_imul hx hb d (by rw [zI_mul]; exact k2)
theorem V_ineg (C : Cx p l s m args meth c D kA b t0 nL own nm cc) {x : Int} (d : DI cc pc (.ineg) 1 pc') 
    (k : V p l e R s m args below meth c D kA b nL (cells) (slots) (Q) X (pc') (lv) (iv (-x) :: st)) : V p l e R s m args below meth c D kA b nL (cells) (slots) (Q) X (pc) (lv) (iv x :: st) := by
  obtain ⟨hx, hb, hml, hown, hts, hlk, hK, hF, hst, hbs, hnm⟩ := C
  obtain ⟨d, rfl⟩ := d
  intro H locs ls hW hS hl
  have k2 := k H locs ls hW hS hl
  exact lv_ineg hx hb d (by rw [zI_neg]; exact k2)
theorem V_idiv (C : Cx p l s m args meth c D kA b t0 nL own nm cc) {x y : Int} (d : DI cc pc (.idiv) 1 pc') (hrx : rng x) (hry : rng y) (hy : y ≠ 0)
    (k : V p l e R s m args below meth c D kA b nL (cells) (slots) (Q) X (pc') (lv) (iv (x.tdiv y) :: st)) : V p l e R s m args below meth c D kA b nL (cells) (slots) (Q) X (pc) (lv) (iv y :: iv x :: st) := by
  obtain ⟨hx, hb, hml, hown, hts, hlk, hK, hF, hst, hbs, hnm⟩ := C
  obtain ⟨d, rfl⟩ := d
  intro H locs ls hW hS hl
  have k2 := k H locs ls hW hS hl
  exact lv_idiv hx hb d (fun h => hy ((zI_eq hry (by omega)).mp h)) (by rw [zI_div hrx hry]; exact k2)
theorem V_irem (C : Cx p l s m args meth c D kA b t0 nL own nm cc) {x y : Int} (d : DI cc pc (.irem) 1 pc') (hrx : rng x) (hry : rng y) (hy : y ≠ 0)
    (k : V p l e R s m args below meth c D kA b nL (cells) (slots) (Q) X (pc') (lv) (iv (x.tmod y) :: st)) : V p l e R s m args below meth c D kA b nL (cells) (slots) (Q) X (pc) (lv) (iv y :: iv x :: st) := by
  obtain ⟨hx, hb, hml, hown, hts, hlk, hK, hF, hst, hbs, hnm⟩ := C
  obtain ⟨d, rfl⟩ := d
  intro H locs ls hW hS hl
  have k2 := k H locs ls hW hS hl
  exact lv_irem hx hb d (fun h => hy ((zI_eq hry (by omega)).mp h)) (by rw [zI_div hrx hry, zI_mul, zI_sub, tmod_eq]; exact k2)
theorem V_idivN (C : Cx p l s m args meth c D kA b t0 nL own nm cc) {x y : Int} (d : DI cc pc (.idiv) 1 pc') (hrx : rng x) (hry : rng y) (h0 : 0 ≤ x) (hy : 0 < y)
    (k : V p l e R s m args below meth c D kA b nL (cells) (slots) (Q) X (pc') (lv) (iv (x / y) :: st)) : V p l e R s m args below meth c D kA b nL (cells) (slots) (Q) X (pc) (lv) (iv y :: iv x :: st) := by
  obtain ⟨hx, hb, hml, hown, hts, hlk, hK, hF, hst, hbs, hnm⟩ := C
  obtain ⟨d, rfl⟩ := d
  intro H locs ls hW hS hl
  have k2 := k H locs ls hW hS hl
  exact lv_idiv hx hb d (fun h => (by omega : y ≠ 0) ((zI_eq hry (by omega)).mp h)) (by rw [zI_div hrx hry, Int.tdiv_eq_ediv_of_nonneg h0]; exact k2)
theorem V_iremN (C : Cx p l s m args meth c D kA b t0 nL own nm cc) {x y : Int} (d : DI cc pc (.irem) 1 pc') (hrx : rng x) (hry : rng y) (h0 : 0 ≤ x) (hy : 0 < y)
    (k : V p l e R s m args below meth c D kA b nL (cells) (slots) (Q) X (pc') (lv) (iv (x % y) :: st)) : V p l e R s m args below meth c D kA b nL (cells) (slots) (Q) X (pc) (lv) (iv y :: iv x :: st) := by
  obtain ⟨hx, hb, hml, hown, hts, hlk, hK, hF, hst, hbs, hnm⟩ := C
  obtain ⟨d, rfl⟩ := d
  intro H locs ls hW hS hl
  have k2 := k H locs ls hW hS hl
  exact lv_irem hx hb d (fun h => (by omega : y ≠ 0) ((zI_eq hry (by omega)).mp h)) (by rw [zI_div hrx hry, zI_mul, zI_sub, tmod_eq, Int.tmod_eq_emod_of_nonneg h0]; exact k2)
theorem V_ldivN (C : Cx p l s m args meth c D kA b t0 nL own nm cc) {x y : Int} (d : DI cc pc (.ldiv) 1 pc') (hrx : rngL x) (hry : rngL y) (h0 : 0 ≤ x) (hy : 0 < y)
    (k : V p l e R s m args below meth c D kA b nL (cells) (slots) (Q) X (pc') (lv) (lo (x / y) :: st)) : V p l e R s m args below meth c D kA b nL (cells) (slots) (Q) X (pc) (lv) (lo y :: lo x :: st) := by
  obtain ⟨hx, hb, hml, hown, hts, hlk, hK, hF, hst, hbs, hnm⟩ := C
  obtain ⟨d, rfl⟩ := d
  intro H locs ls hW hS hl
  have k2 := k H locs ls hW hS hl
  exact lv_ldiv hx hb d (fun h => (by omega : y ≠ 0) ((zL_eq hry (by omega)).mp h)) (by rw [zL_div hrx hry, Int.tdiv_eq_ediv_of_nonneg h0]; exact k2)
theorem V_ior (C : Cx p l s m args meth c D kA b t0 nL own nm cc) {x y : Int} (d : DI cc pc (.ior) 1 pc') (hx0 : x = 0 ∨ x = 1) (hy0 : y = 0 ∨ y = 1)
    (k : V p l e R s m args below meth c D kA b nL (cells) (slots) (Q) X (pc') (lv) (iv (if x = 0 then y else 1) :: st)) : V p l e R s m args below meth c D kA b nL (cells) (slots) (Q) X (pc) (lv) (iv y :: iv x :: st) := by
  obtain ⟨hx, hb, hml, hown, hts, hlk, hK, hF, hst, hbs, hnm⟩ := C
  obtain ⟨d, rfl⟩ := d
  intro H locs ls hW hS hl
  have k2 := k H locs ls hW hS hl
  have e : zI x ||| zI y = zI (if x = 0 then y else 1) := by
    rcases hx0 with rfl | rfl <;> rcases hy0 with rfl | rfl <;> decide
  exact lv_ior hx hb d (by rw [e]; exact k2)
theorem V_ladd (C : Cx p l s m args meth c D kA b t0 nL own nm cc) {x y : Int} (d : DI cc pc (.ladd) 1 pc') 
    (k : V p l e R s m args below meth c D kA b nL (cells) (slots) (Q) X (pc') (lv) (lo (x + y) :: st)) : V p l e R s m args below meth c D kA b nL (cells) (slots) (Q) X (pc) (lv) (lo y :: lo x :: st) := by
  obtain ⟨hx, hb, hml, hown, hts, hlk, hK, hF, hst, hbs, hnm⟩ := C
  obtain ⟨d, rfl⟩ := d
  intro H locs ls hW hS hl
  have k2 := k H locs ls hW hS hl
  exact lv_ladd hx hb d (by rw [zL_add]; exact k2)
theorem V_lmul (C : Cx p l s m args meth c D kA b t0 nL own nm cc) {x y : Int} (d : DI cc pc (.lmul) 1 pc') 
    (k : V p l e R s m args below meth c D kA b nL (cells) (slots) (Q) X (pc') (lv) (lo (x * y) :: st)) : V p l e R s m args below meth c D kA b nL (cells) (slots) (Q) X (pc) (lv) (lo y :: lo x :: st) := by
  obtain ⟨hx, hb, hml, hown, hts, hlk, hK, hF, hst, hbs, hnm⟩ := C
  obtain ⟨d, rfl⟩ := d
  intro H locs ls hW hS hl
  have k2 := k H locs ls hW hS hl
  exact lv_lmul hx hb d (by rw [zL_mul]; exact k2)
theorem V_ldiv (C : Cx p l s m args meth c D kA b t0 nL own nm cc) {x y : Int} (d : DI cc pc (.ldiv) 1 pc') (hrx : rngL x) (hry : rngL y) (hy : y ≠ 0)
    (k : V p l e R s m args below meth c D kA b nL (cells) (slots) (Q) X (pc') (lv) (lo (x.tdiv y) :: st)) : V p l e R s m args below meth c D kA b nL (cells) (slots) (Q) X (pc) (lv) (lo y :: lo x :: st) := by
  obtain ⟨hx, hb, hml, hown, hts, hlk, hK, hF, hst, hbs, hnm⟩ := C
  obtain ⟨d, rfl⟩ := d
  intro H locs ls hW hS hl
  have k2 := k H locs ls hW hS hl
  exact lv_ldiv hx hb d (fun h => hy ((zL_eq hry (by omega)).mp h)) (by rw [zL_div hrx hry]; exact k2)
theorem V_i2l (C : Cx p l s m args meth c D kA b t0 nL own nm cc) {x : Int} (d : DI cc pc (.i2l) 1 pc') (hr : rng x)
    (k : V p l e R s m args below meth c D kA b nL (cells) (slots) (Q) X (pc') (lv) (lo x :: st)) : V p l e R s m args below meth c D kA b nL (cells) (slots) (Q) X (pc) (lv) (iv x :: st) := by
  obtain ⟨hx, hb, hml, hown, hts, hlk, hK, hF, hst, hbs, hnm⟩ := C
  obtain ⟨d, rfl⟩ := d
  intro H locs ls hW hS hl
  have k2 := k H locs ls hW hS hl
  exact lv_i2l hx hb d (zI_long hr) k2
theorem V_l2i (C : Cx p l s m args meth c D kA b t0 nL own nm cc) {x : Int} (d : DI cc pc (.l2i) 1 pc') 
    (k : V p l e R s m args below meth c D kA b nL (cells) (slots) (Q) X (pc') (lv) (iv x :: st)) : V p l e R s m args below meth c D kA b nL (cells) (slots) (Q) X (pc) (lv) (lo x :: st) := by
  obtain ⟨hx, hb, hml, hown, hts, hlk, hK, hF, hst, hbs, hnm⟩ := C
  obtain ⟨d, rfl⟩ := d
  intro H locs ls hW hS hl
  have k2 := k H locs ls hW hS hl
  exact lv_l2i hx hb d (zL_i x) k2
theorem V_lcmp (C : Cx p l s m args meth c D kA b t0 nL own nm cc) {x y : Int} (d : DI cc pc (.lcmp) 1 pc') (hrx : rngL x) (hry : rngL y)
    (k : V p l e R s m args below meth c D kA b nL (cells) (slots) (Q) X (pc') (lv) (iv (if y < x then 1 else if x = y then 0 else -1) :: st)) : V p l e R s m args below meth c D kA b nL (cells) (slots) (Q) X (pc) (lv) (lo y :: lo x :: st) := by
  obtain ⟨hx, hb, hml, hown, hts, hlk, hK, hF, hst, hbs, hnm⟩ := C
  obtain ⟨d, rfl⟩ := d
  intro H locs ls hW hS hl
  have k2 := k H locs ls hW hS hl
  have e : lg_cmp (zL x) (zL y) = zI (if y < x then 1 else if x = y then 0 else -1) := by
    unfold lg_cmp
    have h1 : (zL x > zL y) ↔ y < x := zL_lt hry hrx
    have h2 : (zL x = zL y) ↔ x = y := zL_eq hrx hry
    simp only [h1, h2]
    split
    · rfl
    · split <;> rfl
  exact W.lcmp hx hb d (by rw [e]; exact k2)
theorem rng_0 : rng 0 := by omega
theorem V_if_eq (C : Cx p l s m args meth c D kA b t0 nL own nm cc) {x : Int} {off : Int} (d : DB cc pc (.ifCond .eq off) off 3 pc' tgt) (hr : rng x)
    (kt : x = 0 → V p l e R s m args below meth c D kA b nL (cells) (slots) (Q) X (tgt) (lv) (st)) (kf : x ≠ 0 → V p l e R s m args below meth c D kA b nL (cells) (slots) (Q) X (pc') (lv) (st)) : V p l e R s m args below meth c D kA b nL (cells) (slots) (Q) X (pc) (lv) (iv x :: st) := by
  obtain ⟨hx, hb, hml, hown, hts, hlk, hK, hF, hst, hbs, hnm⟩ := C
  obtain ⟨d, rfl, ht⟩ := d
  intro H locs ls hW hS hl
  exact lv_if_eq hx hb d ht (fun h => kt ((zI_eq hr rng_0).mp h) H locs ls hW hS hl) (fun h => kf (fun z => h ((zI_eq hr rng_0).mpr z)) H locs ls hW hS hl)
theorem V_if_ne (C : Cx p l s m args meth c D kA b t0 nL own nm cc) {x : Int} {off : Int} (d : DB cc pc (.ifCond .ne off) off 3 pc' tgt) (hr : rng x)
    (kt : x ≠ 0 → V p l e R s m args below meth c D kA b nL (cells) (slots) (Q) X (tgt) (lv) (st)) (kf : x = 0 → V p l e R s m args below meth c D kA b nL (cells) (slots) (Q) X (pc') (lv) (st)) : V p l e R s m args below meth c D kA b nL (cells) (slots) (Q) X (pc) (lv) (iv x :: st) := by
  obtain ⟨hx, hb, hml, hown, hts, hlk, hK, hF, hst, hbs, hnm⟩ := C
  obtain ⟨d, rfl, ht⟩ := d
  intro H locs ls hW hS hl
  exact lv_if_ne hx hb d ht (fun h => kt (fun z => h ((zI_eq hr rng_0).mpr z)) H locs ls hW hS hl) (fun h => kf ((zI_eq hr rng_0).mp h) H locs ls hW hS hl)
theorem V_if_lt (C : Cx p l s m args meth c D kA b t0 nL own nm cc) {x : Int} {off : Int} (d : DB cc pc (.ifCond .lt off) off 3 pc' tgt) (hr : rng x)
    (kt : x < 0 → V p l e R s m args below meth c D kA b nL (cells) (slots) (Q) X (tgt) (lv) (st)) (kf : 0 ≤ x → V p l e R s m args below meth c D kA b nL (cells) (slots) (Q) X (pc') (lv) (st)) : V p l e R s m args below meth c D kA b nL (cells) (slots) (Q) X (pc) (lv) (iv x :: st) := by
  obtain ⟨hx, hb, hml, hown, hts, hlk, hK, hF, hst, hbs, hnm⟩ := C
  obtain ⟨d, rfl, ht⟩ := d
  intro H locs ls hW hS hl
  exact lv_if_lt hx hb d ht (fun h => kt ((zI_lt hr rng_0).mp h) H locs ls hW hS hl) (fun h => kf (Int.not_lt.mp fun z => h ((zI_lt hr rng_0).mpr z)) H locs ls hW hS hl)
theorem V_if_ge (C : Cx p l s m args meth c D kA b t0 nL own nm cc) {x : Int} {off : Int} (d : DB cc pc (.ifCond .ge off) off 3 pc' tgt) (hr : rng x)
    (kt : 0 ≤ x → V p l e R s m args below meth c D kA b nL (cells) (slots) (Q) X (tgt) (lv) (st)) (kf : x < 0 → V p l e R s m args below meth c D kA b nL (cells) (slots) (Q) X (pc') (lv) (st)) : V p l e R s m args below meth c D kA b nL (cells) (slots) (Q) X (pc) (lv) (iv x :: st) := by
  obtain ⟨hx, hb, hml, hown, hts, hlk, hK, hF, hst, hbs, hnm⟩ := C
  obtain ⟨d, rfl, ht⟩ := d
  intro H locs ls hW hS hl
  exact lv_if_ge hx hb d ht (fun h => kt ((zI_le rng_0 hr).mp h) H locs ls hW hS hl) (fun h => kf (Int.not_le.mp fun z => h ((zI_le rng_0 hr).mpr z)) H locs ls hW hS hl)
theorem V_if_gt (C : Cx p l s m args meth c D kA b t0 nL own nm cc) {x : Int} {off : Int} (d : DB cc pc (.ifCond .gt off) off 3 pc' tgt) (hr : rng x)
    (kt : 0 < x → V p l e R s m args below meth c D kA b nL (cells) (slots) (Q) X (tgt) (lv) (st)) (kf : x ≤ 0 → V p l e R s m args below meth c D kA b nL (cells) (slots) (Q) X (pc') (lv) (st)) : V p l e R s m args below meth c D kA b nL (cells) (slots) (Q) X (pc) (lv) (iv x :: st) := by
  obtain ⟨hx, hb, hml, hown, hts, hlk, hK, hF, hst, hbs, hnm⟩ := C
  obtain ⟨d, rfl, ht⟩ := d
  intro H locs ls hW hS hl
  exact lv_if_gt hx hb d ht (fun h => kt ((zI_lt rng_0 hr).mp h) H locs ls hW hS hl) (fun h => kf (Int.not_lt.mp fun z => h ((zI_lt rng_0 hr).mpr z)) H locs ls hW hS hl)
theorem V_if_le (C : Cx p l s m args meth c D kA b t0 nL own nm cc) {x : Int} {off : Int} (d : DB cc pc (.ifCond .le off) off 3 pc' tgt) (hr : rng x)
    (kt : x ≤ 0 → V p l e R s m args below meth c D kA b nL (cells) (slots) (Q) X (tgt) (lv) (st)) (kf : 0 < x → V p l e R s m args below meth c D kA b nL (cells) (slots) (Q) X (pc') (lv) (st)) : V p l e R s m args below meth c D kA b nL (cells) (slots) (Q) X (pc) (lv) (iv x :: st) := by
  obtain ⟨hx, hb, hml, hown, hts, hlk, hK, hF, hst, hbs, hnm⟩ := C
  obtain ⟨d, rfl, ht⟩ := d
  intro H locs ls hW hS hl
  exact lv_if_le hx hb d ht (fun h => kt ((zI_le hr rng_0).mp h) H locs ls hW hS hl) (fun h => kf (Int.not_le.mp fun z => h ((zI_le hr rng_0).mpr z)) H locs ls hW hS hl)
theorem V_icmp_eq (C : Cx p l s m args meth c D kA b t0 nL own nm cc) {x y : Int} {off : Int} (d : DB cc pc (.if_icmp .eq off) off 3 pc' tgt) (hrx : rng x) (hry : rng y)
    (kt : x = y → V p l e R s m args below meth c D kA b nL (cells) (slots) (Q) X (tgt) (lv) (st)) (kf : x ≠ y → V p l e R s m args below meth c D kA b nL (cells) (slots) (Q) X (pc') (lv) (st)) : V p l e R s m args below meth c D kA b nL (cells) (slots) (Q) X (pc) (lv) (iv y :: iv x :: st) := by
  obtain ⟨hx, hb, hml, hown, hts, hlk, hK, hF, hst, hbs, hnm⟩ := C
  obtain ⟨d, rfl, ht⟩ := d
  intro H locs ls hW hS hl
  exact lv_icmp_eq hx hb d ht (fun h => kt ((zI_eq hrx hry).mp h) H locs ls hW hS hl) (fun h => kf (fun z => h ((zI_eq hrx hry).mpr z)) H locs ls hW hS hl)
theorem V_icmp_ne (C : Cx p l s m args meth c D kA b t0 nL own nm cc) {x y : Int} {off : Int} (d : DB cc pc (.if_icmp .ne off) off 3 pc' tgt) (hrx : rng x) (hry : rng y)
    (kt : x ≠ y → V p l e R s m args below meth c D kA b nL (cells) (slots) (Q) X (tgt) (lv) (st)) (kf : x = y → V p l e R s m args below meth c D kA b nL (cells) (slots) (Q) X (pc') (lv) (st)) : V p l e R s m args below meth c D kA b nL (cells) (slots) (Q) X (pc) (lv) (iv y :: iv x :: st) := by
  obtain ⟨hx, hb, hml, hown, hts, hlk, hK, hF, hst, hbs, hnm⟩ := C
  obtain ⟨d, rfl, ht⟩ := d
  intro H locs ls hW hS hl
  exact lv_icmp_ne hx hb d ht (fun h => kt (fun z => h ((zI_eq hrx hry).mpr z)) H locs ls hW hS hl) (fun h => kf ((zI_eq hrx hry).mp h) H locs ls hW hS hl)
theorem V_icmp_lt (C : Cx p l s m args meth c D kA b t0 nL own nm cc) {x y : Int} {off : Int} (d : DB cc pc (.if_icmp .lt off) off 3 pc' tgt) (hrx : rng x) (hry : rng y)
    (kt : x < y → V p l e R s m args below meth c D kA b nL (cells) (slots) (Q) X (tgt) (lv) (st)) (kf : y ≤ x → V p l e R s m args below meth c D kA b nL (cells) (slots) (Q) X (pc') (lv) (st)) : V p l e R s m args below meth c D kA b nL (cells) (slots) (Q) X (pc) (lv) (iv y :: iv x :: st) := by
  obtain ⟨hx, hb, hml, hown, hts, hlk, hK, hF, hst, hbs, hnm⟩ := C
  obtain ⟨d, rfl, ht⟩ := d
  intro H locs ls hW hS hl
  exact lv_icmp_lt hx hb d ht (fun h => kt ((zI_lt hrx hry).mp h) H locs ls hW hS hl) (fun h => kf (Int.not_lt.mp fun z => h ((zI_lt hrx hry).mpr z)) H locs ls hW hS hl)
theorem V_icmp_ge (C : Cx p l s m args meth c D kA b t0 nL own nm cc) {x y : Int} {off : Int} (d : DB cc pc (.if_icmp .ge off) off 3 pc' tgt) (hrx : rng x) (hry : rng y)
    (kt : y ≤ x → V p l e R s m args below meth c D kA b nL (cells) (slots) (Q) X (tgt) (lv) (st)) (kf : x < y → V p l e R s m args below meth c D kA b nL (cells) (slots) (Q) X (pc') (lv) (st)) : V p l e R s m args below meth c D kA b nL (cells) (slots) (Q) X (pc) (lv) (iv y :: iv x :: st) := by
  obtain ⟨hx, hb, hml, hown, hts, hlk, hK, hF, hst, hbs, hnm⟩ := C
  obtain ⟨d, rfl, ht⟩ := d
  intro H locs ls hW hS hl
  exact lv_icmp_ge hx hb d ht (fun h => kt ((zI_le hry hrx).mp h) H locs ls hW hS hl) (fun h => kf (Int.not_le.mp fun z => h ((zI_le hry hrx).mpr z)) H locs ls hW hS hl)
theorem V_icmp_gt (C : Cx p l s m args meth c D kA b t0 nL own nm cc) {x y : Int} {off : Int} (d : DB cc pc (.if_icmp .gt off) off 3 pc' tgt) (hrx : rng x) (hry : rng y)
    (kt : y < x → V p l e R s m args below meth c D kA b nL (cells) (slots) (Q) X (tgt) (lv) (st)) (kf : x ≤ y → V p l e R s m args below meth c D kA b nL (cells) (slots) (Q) X (pc') (lv) (st)) : V p l e R s m args below meth c D kA b nL (cells) (slots) (Q) X (pc) (lv) (iv y :: iv x :: st) := by
  obtain ⟨hx, hb, hml, hown, hts, hlk, hK, hF, hst, hbs, hnm⟩ := C
  obtain ⟨d, rfl, ht⟩ := d
  intro H locs ls hW hS hl
  exact lv_icmp_gt hx hb d ht (fun h => kt ((zI_lt hry hrx).mp h) H locs ls hW hS hl) (fun h => kf (Int.not_lt.mp fun z => h ((zI_lt hry hrx).mpr z)) H locs ls hW hS hl)
theorem V_icmp_le (C : Cx p l s m args meth c D kA b t0 nL own nm cc) {x y : Int} {off : Int} (d : DB cc pc (.if_icmp .le off) off 3 pc' tgt) (hrx : rng x) (hry : rng y)
    (kt : x ≤ y → V p l e R s m args below meth c D kA b nL (cells) (slots) (Q) X (tgt) (lv) (st)) (kf : y < x → V p l e R s m args below meth c D kA b nL (cells) (slots) (Q) X (pc') (lv) (st)) : V p l e R s m args below meth c D kA b nL (cells) (slots) (Q) X (pc) (lv) (iv y :: iv x :: st) := by
  obtain ⟨hx, hb, hml, hown, hts, hlk, hK, hF, hst, hbs, hnm⟩ := C
  obtain ⟨d, rfl, ht⟩ := d
  intro H locs ls hW hS hl
  exact lv_icmp_le hx hb d ht (fun h => kt ((zI_le hrx hry).mp h) H locs ls hW hS hl) (fun h => kf (Int.not_le.mp fun z => h ((zI_le hrx hry).mpr z)) H locs ls hW hS hl)
theorem V_acmp_eq (C : Cx p l s m args meth c D kA b t0 nL own nm cc) {x y : Option Nat} {off : Int} (d : DB cc pc (.if_acmp .eq off) off 3 pc' tgt) 
    (kt : x = y → V p l e R s m args below meth c D kA b nL (cells) (slots) (Q) X (tgt) (lv) (st)) (kf : x ≠ y → V p l e R s m args below meth c D kA b nL (cells) (slots) (Q) X (pc') (lv) (st)) : V p l e R s m args below meth c D kA b nL (cells) (slots) (Q) X (pc) (lv) (rv y :: rv x :: st) := by
  obtain ⟨hx, hb, hml, hown, hts, hlk, hK, hF, hst, hbs, hnm⟩ := C
  obtain ⟨d, rfl, ht⟩ := d
  intro H locs ls hW hS hl
  exact lv_acmp_eq hx hb d ht (fun h => kt h H locs ls hW hS hl) (fun h => kf h H locs ls hW hS hl)
theorem V_acmp_ne (C : Cx p l s m args meth c D kA b t0 nL own nm cc) {x y : Option Nat} {off : Int} (d : DB cc pc (.if_acmp .ne off) off 3 pc' tgt) 
    (kt : x ≠ y → V p l e R s m args below meth c D kA b nL (cells) (slots) (Q) X (tgt) (lv) (st)) (kf : x = y → V p l e R s m args below meth c D kA b nL (cells) (slots) (Q) X (pc') (lv) (st)) : V p l e R s m args below meth c D kA b nL (cells) (slots) (Q) X (pc) (lv) (rv y :: rv x :: st) := by
  obtain ⟨hx, hb, hml, hown, hts, hlk, hK, hF, hst, hbs, hnm⟩ := C
  obtain ⟨d, rfl, ht⟩ := d
  intro H locs ls hW hS hl
  exact lv_acmp_ne hx hb d ht (fun h => kt h H locs ls hW hS hl) (fun h => kf h H locs ls hW hS hl)
theorem V_ifnull (C : Cx p l s m args meth c D kA b t0 nL own nm cc) {x : Option Nat} {off : Int} (d : DB cc pc (.ifnull off) off 3 pc' tgt) 
    (kt : x = none → V p l e R s m args below meth c D kA b nL (cells) (slots) (Q) X (tgt) (lv) (st)) (kf : x ≠ none → V p l e R s m args below meth c D kA b nL (cells) (slots) (Q) X (pc') (lv) (st)) : V p l e R s m args below meth c D kA b nL (cells) (slots) (Q) X (pc) (lv) (rv x :: st) := by
  obtain ⟨hx, hb, hml, hown, hts, hlk, hK, hF, hst, hbs, hnm⟩ := C
  obtain ⟨d, rfl, ht⟩ := d
  intro H locs ls hW hS hl
  cases x with
  | none => exact lv_ifnullN hx hb d ht (kt rfl H locs ls hW hS hl)
  | some y => exact lv_ifnull hx hb d (kf (fun h => nomatch h) H locs ls hW hS hl)
theorem V_goto (C : Cx p l s m args meth c D kA b t0 nL own nm cc) {off : Int} (d : DB cc pc (.goto off) off 3 pc' tgt) (k : V p l e R s m args below meth c D kA b nL (cells) (slots) (Q) X (tgt) (lv) (st)) : V p l e R s m args below meth c D kA b nL (cells) (slots) (Q) X (pc) (lv) (st) := by
  obtain ⟨hx, hb, hml, hown, hts, hlk, hK, hF, hst, hbs, hnm⟩ := C
  obtain ⟨d, rfl, ht⟩ := d
  intro H locs ls hW hS hl
  exact lv_goto hx hb d ht (k H locs ls hW hS hl)
theorem V_tin (C : Cx p l s m args meth c D kA b t0 nL own nm cc) {dflt lo9 hi9 : Int} {offs : Array Int} {len : Nat} {x off : Int} (d : DI cc pc (.tableswitch dflt lo9 hi9 offs) len pc') (hr : rng x) (h1 : lo9 ≤ x) (h2 : x ≤ hi9) (ho : offs[(x - lo9).toNat]? = some off) (ht : (pc : Int) + off = (tgt : Int))
    (k : V p l e R s m args below meth c D kA b nL (cells) (slots) (Q) X (tgt) (lv) (st)) : V p l e R s m args below meth c D kA b nL (cells) (slots) (Q) X (pc) (lv) (iv x :: st) := by
  obtain ⟨hx, hb, hml, hown, hts, hlk, hK, hF, hst, hbs, hnm⟩ := C
  obtain ⟨d, -⟩ := d
  intro H locs ls hW hS hl
  have e := zI_int hr
  exact lv_tableIn hx hb d (by rw [e]; omega) (by rw [e]; omega) (by rw [e]; exact ho) ht (k H locs ls hW hS hl)
theorem V_tout (C : Cx p l s m args meth c D kA b t0 nL own nm cc) {dflt lo9 hi9 : Int} {offs : Array Int} {len : Nat} {x : Int} (d : DI cc pc (.tableswitch dflt lo9 hi9 offs) len pc') (hr : rng x) (h1 : x < lo9 ∨ hi9 < x) (ht : (pc : Int) + dflt = (tgt : Int))
    (k : V p l e R s m args below meth c D kA b nL (cells) (slots) (Q) X (tgt) (lv) (st)) : V p l e R s m args below meth c D kA b nL (cells) (slots) (Q) X (pc) (lv) (iv x :: st) := by
  obtain ⟨hx, hb, hml, hown, hts, hlk, hK, hF, hst, hbs, hnm⟩ := C
  obtain ⟨d, -⟩ := d
  intro H locs ls hW hS hl
  have e := zI_int hr
  exact lv_tableOut hx hb d (by rw [e]; exact h1) ht (k H locs ls hW hS hl)
end VS
end
section
/-! rows of the heap: fields, arrays, new cells -/
section VH
variable {p : Program} {l : Launch} {e : Env} {R : Room} {s : State} {m : MethodId} {args : Array Value} {below : List Frame} {meth : Method} {c : Code}
variable {D : va_G} {kA : Nat → ClassId} {b t0 nL cells slots : Nat} {Q : State → Prop} {own nm : String} {cc : ByteArray} {X : Mm} {pc pc' tgt : Nat} {lv : List (Option Value)} {st : List Value}

theorem fd_same {ref : String} {T : u_T} {k : Nat} (hts : ∀ w ∈ TBL, w.before args s = true) (h : ref = (T k).1 ∨ Cond.sameField ref (T k).1 (T k).2.1 (T k).2.2.1 ∈ TBL) : ∀ x, s.fieldFound? (T k).1 (T k).2.1 (T k).2.2.1 = some x → s.fieldFound? ref (T k).2.1 (T k).2.2.1 = some x := by
  intro x hx
  rcases h with rfl | h
  · exact hx
  · exact u_same (hts _ h) x hx
theorem V_getI (C : Cx p l s m args meth c D kA b t0 nL own nm cc) {a ci N kf f idx : Nat} {Cn : String} {T : u_T} {ty : Nat → FieldType} (cl : CL ci Cn T N ty) (fd : FD own idx ci T N kf f false) (ho : gK X a = ci + 1) (d : DI cc pc (.getfield idx) 3 pc')
    (k : V p l e R s m args below meth c D kA b nL (cells) (slots) (Q) X (pc') (lv) (iv (gI X f a) :: st)) : V p l e R s m args below meth c D kA b nL (cells) (slots) (Q) X (pc) (lv) (rv (some a) :: st) := by
  obtain ⟨hx, hb, hml, hown, hts, hlk, hK, hF, hst, hbs, hnm⟩ := C
  obtain ⟨hc, hci, hnf, hty, hnmm, hin, hdf⟩ := cl
  obtain ⟨hk, rfl, hr, ref, hlink, hsm⟩ := fd
  obtain ⟨d, rfl⟩ := d
  intro H locs ls hW hS hl
  have he := cE_obj (kA := kA) ho hci
  refine va_get (D := D) (cl := vwCl) (ci := ci) (N := N) hx hb hts hin hown hK (hW.P1 he) 0 rfl hc kf hk (hts _ hlink) (fd_same hts hsm) (v := iv (gI X (64 * ci + kf) a)) ?_ d (k H locs ls hW hS hl)
  rw [fl_get _ _ (by omega), hr]
  rfl
theorem V_getP (C : Cx p l s m args meth c D kA b t0 nL own nm cc) {a ci N kf f idx : Nat} {Cn : String} {T : u_T} {ty : Nat → FieldType} {r : Option Nat} (cl : CL ci Cn T N ty) (fd : FD own idx ci T N kf f true) (ho : gK X a = ci + 1) (hp : gP X f a = r) (d : DI cc pc (.getfield idx) 3 pc')
    (k : V p l e R s m args below meth c D kA b nL (cells) (slots) (Q) X (pc') (lv) (rv r :: st)) : V p l e R s m args below meth c D kA b nL (cells) (slots) (Q) X (pc) (lv) (rv (some a) :: st) := by
  obtain ⟨hx, hb, hml, hown, hts, hlk, hK, hF, hst, hbs, hnm⟩ := C
  obtain ⟨hc, hci, hnf, hty, hnmm, hin, hdf⟩ := cl
  obtain ⟨hk, rfl, hr, ref, hlink, hsm⟩ := fd
  obtain ⟨d, rfl⟩ := d
  intro H locs ls hW hS hl
  have he := cE_obj (kA := kA) ho hci
  refine va_get (D := D) (cl := vwCl) (ci := ci) (N := N) hx hb hts hin hown hK (hW.P1 he) 0 rfl hc kf hk (hts _ hlink) (fd_same hts hsm) (v := rv r) ?_ d (k H locs ls hW hS hl)
  rw [fl_get _ _ (by omega), hr, ← hp]
  rfl
theorem V_putI (C : Cx p l s m args meth c D kA b t0 nL own nm cc) {a ci N kf f idx : Nat} {Cn : String} {T : u_T} {ty : Nat → FieldType} {z : Int} (cl : CL ci Cn T N ty) (fd : FD own idx ci T N kf f false) (hfin : (T kf).2.2.2 = false ∨ ((T kf).2.2.2 = true ∧ nm = "<init>" ∧ (T kf).1 = own)) (ht : ty kf = .int) (ho : gK X a = ci + 1) (d : DI cc pc (.putfield idx) 3 pc')
    (k : V p l e R s m args below meth c D kA b nL (cells) (slots) (Q) (sI X f a z) (pc') (lv) (st)) : V p l e R s m args below meth c D kA b nL (cells) (slots) (Q) X (pc) (lv) (iv z :: rv (some a) :: st) := by
  obtain ⟨hx, hb, hml, hown, hts, hlk, hK, hF, hst, hbs, hnm⟩ := C
  obtain ⟨hc, hci, hnf, hty, hnmm, hin, hdf⟩ := cl
  obtain ⟨hk, rfl, hr, ref, hlink, hsm⟩ := fd
  obtain ⟨d, rfl⟩ := d
  intro H locs ls hW hS hl
  have he := cE_obj (kA := kA) ho hci
  obtain ⟨j, hj⟩ := hW.at he (by omega)
  obtain ⟨hP, hD⟩ := hW.PD
  have hset : fl ci (sI X (64 * ci + kf) a z) a = (fl ci X a).set kf (iv z) := fl_sI X a z hr
  have fin : ∀ (H1 : Heap) (locs1 : List Loc), va_P D vwCl ((lsW kA X H.size).set j (a, .inr (ci, (fl ci X a).set kf (iv z)))) H1 → va_D (Ab b) ((lsW kA X H.size).set j (a, .inr (ci, (fl ci X a).set kf (iv z)))) → va_S (Ab b) s.heap H1 locs1 → W p l e R s m args below meth c H1 locs1 cells slots Q (F0 m (pc + 3) ls st) := by
    intro H1 locs1 hP1 _ hS1
    rw [← hset] at hP1
    refine k H1 locs1 ls (hW.set hbs hS hS1 hj hP1 (cE_obj (by exact ho) hci) rfl (fun q hq => ⟨cE_ext rfl (fun g => ?_) (fun g => ?_) rfl (fun _ => rfl) (fun _ => rfl), rfl⟩)) hS1 hl
    · first | rfl | (rw [gI_sI, if_neg (fun z => hq z.2)])
    · first | rfl | (rw [gP_sP, if_neg (fun z => hq z.2)])
  rcases hfin with hfin | ⟨hfin, h2, h3⟩
  · exact va_put (D := D) (cl := vwCl) (ci := ci) (N := N) hx hb hts hin ty hty hnmm hown hK hP hD hS j hj hc kf hk (hts _ hlink) (fd_same hts hsm) hfin (hty kf hk) (by rw [ht]; rfl) (by rw [ht]; rfl) (by rw [fl_len]; omega) d fin
  · exact va_putF (D := D) (cl := vwCl) (ci := ci) (N := N) hx hb hts hin ty hty hnmm hown hK hP hD hS j hj hc kf hk (hts _ hlink) (fd_same hts hsm) hfin (hnm.trans h2) h3 (hty kf hk) (by rw [ht]; rfl) (by rw [ht]; rfl) (by rw [fl_len]; omega) d fin
theorem V_putZ (C : Cx p l s m args meth c D kA b t0 nL own nm cc) {a ci N kf f idx : Nat} {Cn : String} {T : u_T} {ty : Nat → FieldType} {z : Int} (cl : CL ci Cn T N ty) (fd : FD own idx ci T N kf f false) (hfin : (T kf).2.2.2 = false ∨ ((T kf).2.2.2 = true ∧ nm = "<init>" ∧ (T kf).1 = own)) (ht : ty kf = .boolean) (hz : z = 0 ∨ z = 1) (ho : gK X a = ci + 1) (d : DI cc pc (.putfield idx) 3 pc')
    (k : V p l e R s m args below meth c D kA b nL (cells) (slots) (Q) (sI X f a z) (pc') (lv) (st)) : V p l e R s m args below meth c D kA b nL (cells) (slots) (Q) X (pc) (lv) (iv z :: rv (some a) :: st) := by
  obtain ⟨hx, hb, hml, hown, hts, hlk, hK, hF, hst, hbs, hnm⟩ := C
  obtain ⟨hc, hci, hnf, hty, hnmm, hin, hdf⟩ := cl
  obtain ⟨hk, rfl, hr, ref, hlink, hsm⟩ := fd
  obtain ⟨d, rfl⟩ := d
  intro H locs ls hW hS hl
  have he := cE_obj (kA := kA) ho hci
  obtain ⟨j, hj⟩ := hW.at he (by omega)
  obtain ⟨hP, hD⟩ := hW.PD
  have hset : fl ci (sI X (64 * ci + kf) a z) a = (fl ci X a).set kf (iv z) := fl_sI X a z hr
  have fin : ∀ (H1 : Heap) (locs1 : List Loc), va_P D vwCl ((lsW kA X H.size).set j (a, .inr (ci, (fl ci X a).set kf (iv z)))) H1 → va_D (Ab b) ((lsW kA X H.size).set j (a, .inr (ci, (fl ci X a).set kf (iv z)))) → va_S (Ab b) s.heap H1 locs1 → W p l e R s m args below meth c H1 locs1 cells slots Q (F0 m (pc + 3) ls st) := by
    intro H1 locs1 hP1 _ hS1
    rw [← hset] at hP1
    refine k H1 locs1 ls (hW.set hbs hS hS1 hj hP1 (cE_obj (by exact ho) hci) rfl (fun q hq => ⟨cE_ext rfl (fun g => ?_) (fun g => ?_) rfl (fun _ => rfl) (fun _ => rfl), rfl⟩)) hS1 hl
    · first | rfl | (rw [gI_sI, if_neg (fun z => hq z.2)])
    · first | rfl | (rw [gP_sP, if_neg (fun z => hq z.2)])
  rcases hfin with hfin | ⟨hfin, h2, h3⟩
  · exact va_put (D := D) (cl := vwCl) (ci := ci) (N := N) hx hb hts hin ty hty hnmm hown hK hP hD hS j hj hc kf hk (hts _ hlink) (fd_same hts hsm) hfin (hty kf hk) (by rw [ht]; rcases hz with rfl | rfl <;> rfl) (by rw [ht]; rcases hz with rfl | rfl <;> rfl) (by rw [fl_len]; omega) d fin
  · exact va_putF (D := D) (cl := vwCl) (ci := ci) (N := N) hx hb hts hin ty hty hnmm hown hK hP hD hS j hj hc kf hk (hts _ hlink) (fd_same hts hsm) hfin (hnm.trans h2) h3 (hty kf hk) (by rw [ht]; rcases hz with rfl | rfl <;> rfl) (by rw [ht]; rcases hz with rfl | rfl <;> rfl) (by rw [fl_len]; omega) d fin
theorem V_putP (C : Cx p l s m args meth c D kA b t0 nL own nm cc) {a ci N kf f idx : Nat} {Cn : String} {T : u_T} {ty : Nat → FieldType} {r : Option Nat} (cl : CL ci Cn T N ty) (fd : FD own idx ci T N kf f true) (hfin : (T kf).2.2.2 = false ∨ ((T kf).2.2.2 = true ∧ nm = "<init>" ∧ (T kf).1 = own)) (ht : (∃ C, ty kf = .object C) ∨ ∃ t, ty kf = .array t) (ho : gK X a = ci + 1) (d : DI cc pc (.putfield idx) 3 pc')
    (k : V p l e R s m args below meth c D kA b nL (cells) (slots) (Q) (sP X f a r) (pc') (lv) (st)) : V p l e R s m args below meth c D kA b nL (cells) (slots) (Q) X (pc) (lv) (rv r :: rv (some a) :: st) := by
  obtain ⟨hx, hb, hml, hown, hts, hlk, hK, hF, hst, hbs, hnm⟩ := C
  obtain ⟨hc, hci, hnf, hty, hnmm, hin, hdf⟩ := cl
  obtain ⟨hk, rfl, hr, ref, hlink, hsm⟩ := fd
  obtain ⟨d, rfl⟩ := d
  intro H locs ls hW hS hl
  have he := cE_obj (kA := kA) ho hci
  obtain ⟨j, hj⟩ := hW.at he (by omega)
  obtain ⟨hP, hD⟩ := hW.PD
  have hset : fl ci (sP X (64 * ci + kf) a r) a = (fl ci X a).set kf (rv r) := fl_sP X a r hr
  have fin : ∀ (H1 : Heap) (locs1 : List Loc), va_P D vwCl ((lsW kA X H.size).set j (a, .inr (ci, (fl ci X a).set kf (rv r)))) H1 → va_D (Ab b) ((lsW kA X H.size).set j (a, .inr (ci, (fl ci X a).set kf (rv r)))) → va_S (Ab b) s.heap H1 locs1 → W p l e R s m args below meth c H1 locs1 cells slots Q (F0 m (pc + 3) ls st) := by
    intro H1 locs1 hP1 _ hS1
    rw [← hset] at hP1
    refine k H1 locs1 ls (hW.set hbs hS hS1 hj hP1 (cE_obj (by exact ho) hci) rfl (fun q hq => ⟨cE_ext rfl (fun g => ?_) (fun g => ?_) rfl (fun _ => rfl) (fun _ => rfl), rfl⟩)) hS1 hl
    · first | rfl | (rw [gI_sI, if_neg (fun z => hq z.2)])
    · first | rfl | (rw [gP_sP, if_neg (fun z => hq z.2)])
  rcases hfin with hfin | ⟨hfin, h2, h3⟩
  · exact va_put (D := D) (cl := vwCl) (ci := ci) (N := N) hx hb hts hin ty hty hnmm hown hK hP hD hS j hj hc kf hk (hts _ hlink) (fd_same hts hsm) hfin (hty kf hk) (by rcases ht with ⟨_, h⟩ | ⟨_, h⟩ <;> rw [h] <;> cases r <;> rfl) (by rcases ht with ⟨_, h⟩ | ⟨_, h⟩ <;> rw [h] <;> cases r <;> rfl) (by rw [fl_len]; omega) d fin
  · exact va_putF (D := D) (cl := vwCl) (ci := ci) (N := N) hx hb hts hin ty hty hnmm hown hK hP hD hS j hj hc kf hk (hts _ hlink) (fd_same hts hsm) hfin (hnm.trans h2) h3 (hty kf hk) (by rcases ht with ⟨_, h⟩ | ⟨_, h⟩ <;> rw [h] <;> cases r <;> rfl) (by rcases ht with ⟨_, h⟩ | ⟨_, h⟩ <;> rw [h] <;> cases r <;> rfl) (by rw [fl_len]; omega) d fin
theorem V_iald (C : Cx p l s m args meth c D kA b t0 nL own nm cc) {a j n : Nat} {z : Int} (ho : gK X a = 20) (hN : gN X a = n) (hj : j < n) (hn : n ≤ 2147483647) (hz : z = (j : Int)) (d : DI cc pc (.iaload) 1 pc')
    (k : V p l e R s m args below meth c D kA b nL (cells) (slots) (Q) X (pc') (lv) (iv (gA X a j) :: st)) : V p l e R s m args below meth c D kA b nL (cells) (slots) (Q) X (pc) (lv) (iv z :: rv (some a) :: st) := by
  obtain ⟨hx, hb, hml, hown, hts, hlk, hK, hF, hst, hbs, hnm⟩ := C
  obtain ⟨d, rfl⟩ := d
  subst hz
  intro H locs ls hW hS hl
  subst hN
  have hcl : (zI (j : Int)).toNatClampNeg = j := zI_clamp (by omega)
  refine va_iald (D := D) (cl := vwCl) (ws := [(a, _)]) hx hb hK (hW.P1 (cE_20 ho)) 0 0 rfl rfl (zI_in (by omega) (by omega) (by omega)) d ?_
  rw [hcl]
  exact k H locs ls hW hS hl
theorem V_zald (C : Cx p l s m args meth c D kA b t0 nL own nm cc) {a j n : Nat} {z : Int} (ho : gK X a = 21) (hN : gN X a = n) (hj : j < n) (hn : n ≤ 2147483647) (hz : z = (j : Int)) (d : DI cc pc (.baload) 1 pc')
    (k : V p l e R s m args below meth c D kA b nL (cells) (slots) (Q) X (pc') (lv) (iv (gA X a j) :: st)) : V p l e R s m args below meth c D kA b nL (cells) (slots) (Q) X (pc) (lv) (iv z :: rv (some a) :: st) := by
  obtain ⟨hx, hb, hml, hown, hts, hlk, hK, hF, hst, hbs, hnm⟩ := C
  obtain ⟨d, rfl⟩ := d
  subst hz
  intro H locs ls hW hS hl
  subst hN
  have hcl : (zI (j : Int)).toNatClampNeg = j := zI_clamp (by omega)
  refine va_zald (D := D) (cl := vwCl) (ws := [(a, _)]) hx hb hK (hW.P1 (cE_21 ho)) 0 1 rfl rfl (zI_in (by omega) (by omega) (by omega)) d ?_
  rw [hcl]
  exact k H locs ls hW hS hl
theorem V_lald (C : Cx p l s m args meth c D kA b t0 nL own nm cc) {a j n : Nat} {z : Int} (ho : gK X a = 22) (hN : gN X a = n) (hj : j < n) (hn : n ≤ 2147483647) (hz : z = (j : Int)) (d : DI cc pc (.laload) 1 pc')
    (k : V p l e R s m args below meth c D kA b nL (cells) (slots) (Q) X (pc') (lv) (lo (gA X a j) :: st)) : V p l e R s m args below meth c D kA b nL (cells) (slots) (Q) X (pc) (lv) (iv z :: rv (some a) :: st) := by
  obtain ⟨hx, hb, hml, hown, hts, hlk, hK, hF, hst, hbs, hnm⟩ := C
  obtain ⟨d, rfl⟩ := d
  subst hz
  intro H locs ls hW hS hl
  subst hN
  have hcl : (zI (j : Int)).toNatClampNeg = j := zI_clamp (by omega)
  refine va_lald (D := D) (cl := vwCl) (ws := [(a, _)]) hx hb hK (hW.P1 (cE_22 ho)) 0 2 rfl rfl (zI_in (by omega) (by omega) (by omega)) d ?_
  rw [hcl]
  exact k H locs ls hW hS hl
theorem V_aald (C : Cx p l s m args meth c D kA b t0 nL own nm cc) {a j n : Nat} {z : Int} {r : Option Nat} (ho : gK X a = 23) (hN : gN X a = n) (hj : j < n) (hn : n ≤ 2147483647) (hz : z = (j : Int)) (hr : gO X a j = r) (d : DI cc pc (.aaload) 1 pc')
    (k : V p l e R s m args below meth c D kA b nL (cells) (slots) (Q) X (pc') (lv) (rv r :: st)) : V p l e R s m args below meth c D kA b nL (cells) (slots) (Q) X (pc) (lv) (iv z :: rv (some a) :: st) := by
  obtain ⟨hx, hb, hml, hown, hts, hlk, hK, hF, hst, hbs, hnm⟩ := C
  obtain ⟨d, rfl⟩ := d
  subst hz
  intro H locs ls hW hS hl
  subst hN
  subst hr
  have hcl : (zI (j : Int)).toNatClampNeg = j := zI_clamp (by omega)
  refine va_aldq (D := D) (cl := vwCl) (ws := [(a, _)]) hx hb hK (hW.P1 (cE_23 (Or.inl ho))) 0 3 rfl rfl (zI_in (by omega) (by omega) (by omega)) d ?_
  rw [hcl]
  exact k H locs ls hW hS hl
theorem V_alen (C : Cx p l s m args meth c D kA b t0 nL own nm cc) {a n : Nat} (ho : gK X a = 20 ∨ gK X a = 21 ∨ gK X a = 22 ∨ gK X a = 23 ∨ gK X a = 24) (hN : gN X a = n) (d : DI cc pc (.arraylength) 1 pc')
    (k : V p l e R s m args below meth c D kA b nL (cells) (slots) (Q) X (pc') (lv) (iv (n : Int) :: st)) : V p l e R s m args below meth c D kA b nL (cells) (slots) (Q) X (pc) (lv) (rv (some a) :: st) := by
  obtain ⟨hx, hb, hml, hown, hts, hlk, hK, hF, hst, hbs, hnm⟩ := C
  obtain ⟨d, rfl⟩ := d
  subst hN
  intro H locs ls hW hS hl
  have e : Int32.ofNat (gN X a) = zI (gN X a : Int) := (Int32.ofInt_eq_ofNat).symm
  rcases ho with ho | ho | ho | ho | ho
  · exact va_alen (D := D) (cl := vwCl) (ws := [(a, _)]) hx hb hK (hW.P1 (cE_20 ho)) 0 0 rfl rfl e d (k H locs ls hW hS hl)
  · exact va_alen (D := D) (cl := vwCl) (ws := [(a, _)]) hx hb hK (hW.P1 (cE_21 ho)) 0 1 rfl rfl e d (k H locs ls hW hS hl)
  · exact va_alen (D := D) (cl := vwCl) (ws := [(a, _)]) hx hb hK (hW.P1 (cE_22 ho)) 0 2 rfl rfl e d (k H locs ls hW hS hl)
  · exact va_alen (D := D) (cl := vwCl) (ws := [(a, _)]) hx hb hK (hW.P1 (cE_23 (Or.inl ho))) 0 3 rfl rfl e d (k H locs ls hW hS hl)
  · obtain ⟨cell, g1, g2, g3, g4, g5⟩ := (hW a _ (cE_23 (Or.inr ho))).2.1 ho
    obtain ⟨-, k0, hk0, cm0, hkk0⟩ := (hK.2 3 (kA 3, .object "java/lang/Object") rfl).1 0 (fun _ => Value.null)
    refine W.alen (n := Int32.ofNat (gN X a)) hx hb g1 ⟨g3, k0, by rw [g2]; exact hk0, cm0, hkk0⟩ (g5 _ rfl) rfl rfl d ?_
    rw [e]
    exact k H locs ls hW hS hl
theorem V_iast (C : Cx p l s m args meth c D kA b t0 nL own nm cc) {a j n : Nat} {z x : Int} (ho : gK X a = 20) (hN : gN X a = n) (hj : j < n) (hn : n ≤ 2147483647) (hz : z = (j : Int))  (d : DI cc pc (.iastore) 1 pc')
    (k : V p l e R s m args below meth c D kA b nL (cells) (slots) (Q) (sA X a j x) (pc') (lv) (st)) : V p l e R s m args below meth c D kA b nL (cells) (slots) (Q) X (pc) (lv) (iv x :: iv z :: rv (some a) :: st) := by
  obtain ⟨hx, hb, hml, hown, hts, hlk, hK, hF, hst, hbs, hnm⟩ := C
  obtain ⟨d, rfl⟩ := d
  subst hz
  intro H locs ls hW hS hl
  subst hN
  have hcl : (zI (j : Int)).toNatClampNeg = j := zI_clamp (by omega)
  obtain ⟨i, hi⟩ := hW.at (cE_20 ho) (by omega)
  obtain ⟨hP, hD⟩ := hW.PD
  refine va_iast (D := D) (cl := vwCl) hx hb hK hP hD hS i 0 hi rfl (zI_in (by omega) (by omega) (by omega)) d (fun H1 locs1 hP1 _ hS1 => ?_)
  rw [hcl] at hP1
  have e1 : upd (fun i => zI (gA X a i)) j (zI x) = fun i => zI (gA (sA X a j x) a i) := by
    funext q
    rw [gA_sA]
    by_cases hq : q = j <;> simp [upd, hq]
  rw [e1] at hP1
  refine k H1 locs1 ls (hW.set hbs hS hS1 hi hP1 (cE_20 (by exact ho)) rfl (fun q hq => ⟨cE_ext rfl (fun _ => rfl) (fun _ => rfl) rfl (fun g => ?_) (fun g => ?_), rfl⟩)) hS1 hl
  · rw [gA_sA, if_neg (fun z => hq z.1)]
  · rfl
theorem V_zast (C : Cx p l s m args meth c D kA b t0 nL own nm cc) {a j n : Nat} {z x : Int} (ho : gK X a = 21) (hN : gN X a = n) (hj : j < n) (hn : n ≤ 2147483647) (hz : z = (j : Int)) (hx0 : x = 0 ∨ x = 1) (d : DI cc pc (.bastore) 1 pc')
    (k : V p l e R s m args below meth c D kA b nL (cells) (slots) (Q) (sA X a j x) (pc') (lv) (st)) : V p l e R s m args below meth c D kA b nL (cells) (slots) (Q) X (pc) (lv) (iv x :: iv z :: rv (some a) :: st) := by
  obtain ⟨hx, hb, hml, hown, hts, hlk, hK, hF, hst, hbs, hnm⟩ := C
  obtain ⟨d, rfl⟩ := d
  subst hz
  intro H locs ls hW hS hl
  subst hN
  have hcl : (zI (j : Int)).toNatClampNeg = j := zI_clamp (by omega)
  obtain ⟨i, hi⟩ := hW.at (cE_21 ho) (by omega)
  obtain ⟨hP, hD⟩ := hW.PD
  refine va_zast (D := D) (cl := vwCl) hx hb hK hP hD hS i 1 hi rfl (zI_in (by omega) (by omega) (by omega)) d (fun H1 locs1 hP1 _ hS1 => ?_)
  rw [hcl] at hP1
  have hnr : vp_nar .boolean (zI x) = zI x := by rcases hx0 with rfl | rfl <;> rfl
  have e1 : upd (fun i => zI (gA X a i)) j (vp_nar .boolean (zI x)) = fun i => zI (gA (sA X a j x) a i) := by
    funext q
    rw [gA_sA]
    by_cases hq : q = j <;> simp [upd, hq, hnr]
  rw [e1] at hP1
  refine k H1 locs1 ls (hW.set hbs hS hS1 hi hP1 (cE_21 (by exact ho)) rfl (fun q hq => ⟨cE_ext rfl (fun _ => rfl) (fun _ => rfl) rfl (fun g => ?_) (fun g => ?_), rfl⟩)) hS1 hl
  · rw [gA_sA, if_neg (fun z => hq z.1)]
  · rfl
theorem V_last (C : Cx p l s m args meth c D kA b t0 nL own nm cc) {a j n : Nat} {z x : Int} (ho : gK X a = 22) (hN : gN X a = n) (hj : j < n) (hn : n ≤ 2147483647) (hz : z = (j : Int))  (d : DI cc pc (.lastore) 1 pc')
    (k : V p l e R s m args below meth c D kA b nL (cells) (slots) (Q) (sA X a j x) (pc') (lv) (st)) : V p l e R s m args below meth c D kA b nL (cells) (slots) (Q) X (pc) (lv) (lo x :: iv z :: rv (some a) :: st) := by
  obtain ⟨hx, hb, hml, hown, hts, hlk, hK, hF, hst, hbs, hnm⟩ := C
  obtain ⟨d, rfl⟩ := d
  subst hz
  intro H locs ls hW hS hl
  subst hN
  have hcl : (zI (j : Int)).toNatClampNeg = j := zI_clamp (by omega)
  obtain ⟨i, hi⟩ := hW.at (cE_22 ho) (by omega)
  obtain ⟨hP, hD⟩ := hW.PD
  refine va_last (D := D) (cl := vwCl) hx hb hK hP hD hS i 2 hi rfl (zI_in (by omega) (by omega) (by omega)) d (fun H1 locs1 hP1 _ hS1 => ?_)
  rw [hcl] at hP1
  have e1 : vp_updL (fun i => zL (gA X a i)) j (zL x) = fun i => zL (gA (sA X a j x) a i) := by
    funext q
    rw [gA_sA]
    by_cases hq : q = j <;> simp [vp_updL, hq]
  rw [e1] at hP1
  refine k H1 locs1 ls (hW.set hbs hS hS1 hi hP1 (cE_22 (by exact ho)) rfl (fun q hq => ⟨cE_ext rfl (fun _ => rfl) (fun _ => rfl) rfl (fun g => ?_) (fun g => ?_), rfl⟩)) hS1 hl
  · rw [gA_sA, if_neg (fun z => hq z.1)]
  · rfl
theorem V_aastN (C : Cx p l s m args meth c D kA b t0 nL own nm cc) {a j n : Nat} {z : Int} (ho : gK X a = 23) (hN : gN X a = n) (hj : j < n) (hn : n ≤ 2147483647) (hz : z = (j : Int)) (d : DI cc pc (.aastore) 1 pc')
    (k : V p l e R s m args below meth c D kA b nL (cells) (slots) (Q) (sO X a j none) (pc') (lv) (st)) : V p l e R s m args below meth c D kA b nL (cells) (slots) (Q) X (pc) (lv) (rv none :: iv z :: rv (some a) :: st) := by
  obtain ⟨hx, hb, hml, hown, hts, hlk, hK, hF, hst, hbs, hnm⟩ := C
  obtain ⟨d, rfl⟩ := d
  subst hz
  intro H locs ls hW hS hl
  subst hN
  have hcl : (zI (j : Int)).toNatClampNeg = j := zI_clamp (by omega)
  obtain ⟨i, hi⟩ := hW.at (cE_23 (Or.inl ho)) (by omega)
  obtain ⟨hP, hD⟩ := hW.PD
  refine va_astqN (D := D) (cl := vwCl) hx hb hK hP hD hS i 3 hi rfl (zI_in (by omega) (by omega) (by omega)) d (fun H1 locs1 hP1 _ hS1 => ?_)
  rw [hcl] at hP1
  have e1 : va_up (gO X a) j none = gO (sO X a j none) a := by
    funext q
    rw [gO_sO]
    by_cases hq : q = j <;> simp [va_up, hq]
  rw [e1] at hP1
  refine k H1 locs1 ls (hW.set hbs hS hS1 hi hP1 (cE_23 (Or.inl (by exact ho))) rfl (fun q hq => ⟨cE_ext rfl (fun _ => rfl) (fun _ => rfl) rfl (fun g => ?_) (fun g => ?_), rfl⟩)) hS1 hl
  · rfl
  · rw [gO_sO, if_neg (fun z => hq z.1)]
theorem V_any (C : Cx p l s m args meth c D kA b t0 nL own nm cc) {H : Heap} {v ci N : Nat} {Cn : String} {T : u_T} {ty : Nat → FieldType} (cl : CL ci Cn T N ty) (hcast : (Cond.castable Cn "java/lang/Object") ∈ NW) (hv : gK X v = ci + 1) (hW : wd D kA b X H) : va_Any "java/lang/Object" s H v := by
  obtain ⟨hx, hb, hml, hown, hts, hlk, hK, hF, hst, hbs, hnm⟩ := C
  obtain ⟨hc, hci, hnf, hty, hnmm, hin, hdf⟩ := cl
  refine va_rAny hK (hW.P1 (cE_obj hv hci)) (q0 := 0) rfl hc (fun comp c0 h1 h2 => ?_)
  obtain ⟨c1, t1, g1, g2, g3⟩ := Cond.castable_spec (va_Nw.use (A := args) rfl (hF.2.2.2.2.2.2.2.1 _ hcast))
  cases h2.symm.trans g1
  cases h1.symm.trans g2
  exact g3
theorem V_aast (C : Cx p l s m args meth c D kA b t0 nL own nm cc) {a j n v : Nat} {z : Int} (ho : gK X a = 23) (hN : gN X a = n) (hj : j < n) (hn : n ≤ 2147483647) (hz : z = (j : Int)) (hv : ∀ H, wd D kA b X H → va_Any "java/lang/Object" s H v) (d : DI cc pc (.aastore) 1 pc')
    (k : V p l e R s m args below meth c D kA b nL (cells) (slots) (Q) (sO X a j (some v)) (pc') (lv) (st)) : V p l e R s m args below meth c D kA b nL (cells) (slots) (Q) X (pc) (lv) (rv (some v) :: iv z :: rv (some a) :: st) := by
  obtain ⟨hx, hb, hml, hown, hts, hlk, hK, hF, hst, hbs, hnm⟩ := C
  obtain ⟨d, rfl⟩ := d
  subst hz
  intro H locs ls hW hS hl
  subst hN
  have hcl : (zI (j : Int)).toNatClampNeg = j := zI_clamp (by omega)
  obtain ⟨i, hi⟩ := hW.at (cE_23 (Or.inl ho)) (by omega)
  obtain ⟨hP, hD⟩ := hW.PD
  refine va_astqM (D := D) (cl := vwCl) hx hb hK hP hD hS i 3 hi rfl (hv H hW) (zI_in (by omega) (by omega) (by omega)) d (fun H1 locs1 hP1 _ hS1 => ?_)
  rw [hcl] at hP1
  have e1 : va_up (gO X a) j (some v) = gO (sO X a j (some v)) a := by
    funext q
    rw [gO_sO]
    by_cases hq : q = j <;> simp [va_up, hq]
  rw [e1] at hP1
  refine k H1 locs1 ls (hW.set hbs hS hS1 hi hP1 (cE_23 (Or.inl (by exact ho))) rfl (fun q hq => ⟨cE_ext rfl (fun _ => rfl) (fun _ => rfl) rfl (fun g => ?_) (fun g => ?_), rfl⟩)) hS1 hl
  · rfl
  · rw [gO_sO, if_neg (fun z => hq z.1)]
theorem V_new (C : Cx p l s m args meth c D kA b t0 nL own nm cc) {ci N idx t : Nat} {Cn : String} {T : u_T} {ty : Nat → FieldType} (cl : CL ci Cn T N ty) (kn : KN own idx ci Cn N) (ht : ci + 1 = t) (hc1 : cells + 1 ≤ R.cells) (hs1 : slots + N ≤ R.slots) (d : DI cc pc (.new idx) 3 pc')
    (k : ∀ q : Nat, gK X q = 0 → b ≤ q → V p l e R s m args below meth c D kA b nL (cells + 1) (slots + N) (Q) (alO X q t) (pc') (lv) (rv (some q) :: st)) : V p l e R s m args below meth c D kA b nL (cells) (slots) (Q) X (pc) (lv) (st) := by
  obtain ⟨hx, hb, hml, hown, hts, hlk, hK, hF, hst, hbs, hnm⟩ := C
  obtain ⟨hc, hci, hnf, hty, hnmm, hin, hdf⟩ := cl
  obtain ⟨k1, k2, k3⟩ := kn
  obtain ⟨d, rfl⟩ := d
  subst ht
  intro H locs ls hW hS hl
  obtain ⟨hP, hD⟩ := hW.PD
  have hfs : ∀ j, j < N → defaultValue (ty j) = vp_V ((List.range (nF ci)).map fun k => if isR ci k then rv none else iv 0) j := by
    intro j hj
    rw [hdf j hj]
    unfold vp_V
    rw [List.getD_eq_getElem?_getD, List.getElem?_map, List.getElem?_range (by omega)]
    show _ = (if isR ci j = true then rv none else iv 0)
    cases isR ci j <;> rfl
  refine va_new (D := D) (cl := vwCl) (ci := ci) (N := N) hx hb hts hin ty hty hown (hts _ k1) (hts _ k2) (hts _ k3) hK hP hD hS (fun q hq => Nat.le_trans hbs hq) hc hfs hc1 hs1 d (fun q H1 hP1 hD1 hS1 => ?_)
  obtain ⟨h0, hbq, hp⟩ := hW.push (Y := alO X q (ci + 1)) hbs hS hS1 hP1 hD1
  have hKq : gK (alO X q (ci + 1)) q = ci + 1 := if_pos rfl
  have hfl : fl ci (alO X q (ci + 1)) q = (List.range (nF ci)).map fun k => if isR ci k then rv none else iv 0 := by
    unfold fl
    refine List.map_congr_left fun j _ => ?_
    have e1 : gP (alO X q (ci + 1)) (64 * ci + j) q = none := if_pos rfl
    have e2 : gI (alO X q (ci + 1)) (64 * ci + j) q = 0 := if_pos rfl
    rw [e1, e2]
  refine k q h0 hbq H1 locs ls (hp (by rw [cE_obj hKq hci, hfl]) (by omega) (fun r hr => ⟨cE_ext (if_neg hr) (fun _ => if_neg hr) (fun _ => if_neg hr) rfl (fun _ => rfl) (fun _ => rfl), if_neg hr⟩)) hS1 hl
theorem V_newI (C : Cx p l s m args meth c D kA b t0 nL own nm cc) {n : Nat} {z : Int} (hz : z = (n : Int)) (hn : n ≤ 100000) (harr : Cond.arrayClass (newarray.typeOf .int) ∈ TBL) (hc1 : cells + 1 ≤ R.cells) (hs1 : slots + n ≤ R.slots) (d : DI cc pc (.newarray .int) 2 pc')
    (k : ∀ q : Nat, gK X q = 0 → b ≤ q → V p l e R s m args below meth c D kA b nL (cells + 1) (slots + n) (Q) (alA X q 20 n) (pc') (lv) (rv (some q) :: st)) : V p l e R s m args below meth c D kA b nL (cells) (slots) (Q) X (pc) (lv) (iv z :: st) := by
  obtain ⟨hx, hb, hml, hown, hts, hlk, hK, hF, hst, hbs, hnm⟩ := C
  obtain ⟨d, rfl⟩ := d
  subst hz
  intro H locs ls hW hS hl
  obtain ⟨hP, hD⟩ := hW.PD
  have hcl : (zI (n : Int)).toNatClampNeg = n := zI_clamp (by omega)
  have hnn : ¬ zI (n : Int) < 0 := fun h => by
    have := (zI_lt (by omega) rng_0).mp h
    omega
  refine va_newa (D := D) (cl := vwCl) (atype := .int) (ty := .int) (N' := n) (a0 := (n, .inl (fun _ => 0))) hx hb (hts _ harr) rfl hK hP hD hS (fun q hq => Nat.le_trans hbs hq) (fun cA => by first | rfl | (unfold vp_cell; rfl)) hnn hcl (by show n * 4 ≤ 536870912; omega) hc1 hs1 d (fun q cA H1 hK1 hP1 hD1 hS1 => ?_)
  have hcA : cA = kA 0 := by
    have h1 := (hK1.2 4 (cA, .int) rfl).2
    have h2 := (hK.2 0 (kA 0, .int) rfl).2
    exact Option.some.inj (h1.symm.trans h2)
  subst hcA
  obtain ⟨h0, hbq, hp⟩ := hW.push (Y := alA X q 20 n) hbs hS hS1 hP1 hD1
  have hKq : gK (alA X q 20 n) q = 20 := if_pos rfl
  refine k q h0 hbq H1 locs ls (hp ?_ (by omega) (fun r hr => ⟨cE_ext (if_neg hr) (fun _ => rfl) (fun _ => rfl) (if_neg hr) (fun _ => if_neg hr) (fun _ => if_neg hr), if_neg hr⟩)) hS1 hl
  rw [cE_20 hKq]
  have e1 : gN (alA X q 20 n) q = n := if_pos rfl
  have e2 : ∀ i, gA (alA X q 20 n) q i = 0 := fun i => if_pos rfl
  rw [e1]
  simp only [e2]
  first | rfl | done
theorem V_newZ (C : Cx p l s m args meth c D kA b t0 nL own nm cc) {n : Nat} {z : Int} (hz : z = (n : Int)) (hn : n ≤ 100000) (harr : Cond.arrayClass (newarray.typeOf .boolean) ∈ TBL) (hc1 : cells + 1 ≤ R.cells) (hs1 : slots + n ≤ R.slots) (d : DI cc pc (.newarray .boolean) 2 pc')
    (k : ∀ q : Nat, gK X q = 0 → b ≤ q → V p l e R s m args below meth c D kA b nL (cells + 1) (slots + n) (Q) (alA X q 21 n) (pc') (lv) (rv (some q) :: st)) : V p l e R s m args below meth c D kA b nL (cells) (slots) (Q) X (pc) (lv) (iv z :: st) := by
  obtain ⟨hx, hb, hml, hown, hts, hlk, hK, hF, hst, hbs, hnm⟩ := C
  obtain ⟨d, rfl⟩ := d
  subst hz
  intro H locs ls hW hS hl
  obtain ⟨hP, hD⟩ := hW.PD
  have hcl : (zI (n : Int)).toNatClampNeg = n := zI_clamp (by omega)
  have hnn : ¬ zI (n : Int) < 0 := fun h => by
    have := (zI_lt (by omega) rng_0).mp h
    omega
  refine va_newa (D := D) (cl := vwCl) (atype := .boolean) (ty := .boolean) (N' := n) (a0 := (n, .inl (fun _ => 0))) hx hb (hts _ harr) rfl hK hP hD hS (fun q hq => Nat.le_trans hbs hq) (fun cA => by first | rfl | (unfold vp_cell; rfl)) hnn hcl (by show n * 1 ≤ 536870912; omega) hc1 hs1 d (fun q cA H1 hK1 hP1 hD1 hS1 => ?_)
  have hcA : cA = kA 1 := by
    have h1 := (hK1.2 4 (cA, .boolean) rfl).2
    have h2 := (hK.2 1 (kA 1, .boolean) rfl).2
    exact Option.some.inj (h1.symm.trans h2)
  subst hcA
  obtain ⟨h0, hbq, hp⟩ := hW.push (Y := alA X q 21 n) hbs hS hS1 hP1 hD1
  have hKq : gK (alA X q 21 n) q = 21 := if_pos rfl
  refine k q h0 hbq H1 locs ls (hp ?_ (by omega) (fun r hr => ⟨cE_ext (if_neg hr) (fun _ => rfl) (fun _ => rfl) (if_neg hr) (fun _ => if_neg hr) (fun _ => if_neg hr), if_neg hr⟩)) hS1 hl
  rw [cE_21 hKq]
  have e1 : gN (alA X q 21 n) q = n := if_pos rfl
  have e2 : ∀ i, gA (alA X q 21 n) q i = 0 := fun i => if_pos rfl
  rw [e1]
  simp only [e2]
  first | rfl | done
theorem V_newL (C : Cx p l s m args meth c D kA b t0 nL own nm cc) {n : Nat} {z : Int} (hz : z = (n : Int)) (hn : n ≤ 100000) (harr : Cond.arrayClass (newarray.typeOf .long) ∈ TBL) (hc1 : cells + 1 ≤ R.cells) (hs1 : slots + n ≤ R.slots) (d : DI cc pc (.newarray .long) 2 pc')
    (k : ∀ q : Nat, gK X q = 0 → b ≤ q → V p l e R s m args below meth c D kA b nL (cells + 1) (slots + n) (Q) (alA X q 22 n) (pc') (lv) (rv (some q) :: st)) : V p l e R s m args below meth c D kA b nL (cells) (slots) (Q) X (pc) (lv) (iv z :: st) := by
  obtain ⟨hx, hb, hml, hown, hts, hlk, hK, hF, hst, hbs, hnm⟩ := C
  obtain ⟨d, rfl⟩ := d
  subst hz
  intro H locs ls hW hS hl
  obtain ⟨hP, hD⟩ := hW.PD
  have hcl : (zI (n : Int)).toNatClampNeg = n := zI_clamp (by omega)
  have hnn : ¬ zI (n : Int) < 0 := fun h => by
    have := (zI_lt (by omega) rng_0).mp h
    omega
  refine va_newa (D := D) (cl := vwCl) (atype := .long) (ty := .long) (N' := n) (a0 := (n, .inr (.inl (fun _ => 0)))) hx hb (hts _ harr) rfl hK hP hD hS (fun q hq => Nat.le_trans hbs hq) (fun cA => by first | rfl | (unfold vp_cell; rfl)) hnn hcl (by show n * 8 ≤ 536870912; omega) hc1 hs1 d (fun q cA H1 hK1 hP1 hD1 hS1 => ?_)
  have hcA : cA = kA 2 := by
    have h1 := (hK1.2 4 (cA, .long) rfl).2
    have h2 := (hK.2 2 (kA 2, .long) rfl).2
    exact Option.some.inj (h1.symm.trans h2)
  subst hcA
  obtain ⟨h0, hbq, hp⟩ := hW.push (Y := alA X q 22 n) hbs hS hS1 hP1 hD1
  have hKq : gK (alA X q 22 n) q = 22 := if_pos rfl
  refine k q h0 hbq H1 locs ls (hp ?_ (by omega) (fun r hr => ⟨cE_ext (if_neg hr) (fun _ => rfl) (fun _ => rfl) (if_neg hr) (fun _ => if_neg hr) (fun _ => if_neg hr), if_neg hr⟩)) hS1 hl
  rw [cE_22 hKq]
  have e1 : gN (alA X q 22 n) q = n := if_pos rfl
  have e2 : ∀ i, gA (alA X q 22 n) q i = 0 := fun i => if_pos rfl
  rw [e1]
  simp only [e2]
  first | rfl | done
theorem V_newO (C : Cx p l s m args meth c D kA b t0 nL own nm cc) {n idx : Nat} {z : Int} (hz : z = (n : Int)) (hn : n ≤ 100000) (k1 : Cond.classLink own idx "java/lang/Object" ∈ TBL) (hc1 : cells + 1 ≤ R.cells) (hs1 : slots + n ≤ R.slots) (d : DI cc pc (.anewarray idx) 3 pc')
    (k : ∀ q : Nat, gK X q = 0 → b ≤ q → V p l e R s m args below meth c D kA b nL (cells + 1) (slots + n) (Q) (alA X q 23 n) (pc') (lv) (rv (some q) :: st)) : V p l e R s m args below meth c D kA b nL (cells) (slots) (Q) X (pc) (lv) (iv z :: st) := by
  obtain ⟨hx, hb, hml, hown, hts, hlk, hK, hF, hst, hbs, hnm⟩ := C
  obtain ⟨d, rfl⟩ := d
  subst hz
  intro H locs ls hW hS hl
  obtain ⟨hP, hD⟩ := hW.PD
  have hcl : (zI (n : Int)).toNatClampNeg = n := zI_clamp (by omega)
  have hnn : ¬ zI (n : Int) < 0 := fun h => by
    have := (zI_lt (by omega) rng_0).mp h
    omega
  refine va_newq (D := D) (cl := vwCl) (N' := n) hx hb hown (hts _ k1) hF.2.2.2.2.2.2.2.2 hK hP hD hS (fun q hq => Nat.le_trans hbs hq) hnn hcl (by omega) hc1 hs1 d (fun q cA H1 hK1 hP1 hD1 hS1 => ?_)
  have hcA : cA = kA 3 := by
    obtain ⟨_, _, _, _, _, h1⟩ := (hK1.2 4 (cA, .object "java/lang/Object") rfl).2
    obtain ⟨_, _, _, _, _, h2⟩ := (hK.2 3 (kA 3, .object "java/lang/Object") rfl).2
    exact Option.some.inj (h1.symm.trans h2)
  subst hcA
  obtain ⟨h0, hbq, hp⟩ := hW.push (Y := alA X q 23 n) hbs hS hS1 hP1 hD1
  have hKq : gK (alA X q 23 n) q = 23 := if_pos rfl
  refine k q h0 hbq H1 locs ls (hp ?_ (by omega) (fun r hr => ⟨cE_ext (if_neg hr) (fun _ => rfl) (fun _ => rfl) (if_neg hr) (fun _ => if_neg hr) (fun _ => if_neg hr), if_neg hr⟩)) hS1 hl
  rw [cE_23 (Or.inl hKq)]
  have e1 : gN (alA X q 23 n) q = n := if_pos rfl
  have e2 : gO (alA X q 23 n) q = fun _ => none := funext fun i => if_pos rfl
  rw [e1, e2]
end VH
end
