section
-- ===== PART A: goes FIRST, ahead of the names: the tables' words, and 'selects' of the private methods out of them =====
/-- a private method of a class that the tables say can be made, by its rows of tables_1 -/
def lw_okq (q : MethodName × Nat) : Prop := (q.1.cls ≠ "java/lang/invoke/MethodHandle" ∧ q.1.cls ≠ "java/lang/invoke/VarHandle") ∧ Cond.instantiable q.1.cls q.2 ∈ tables_1 ∧ Cond.privateMethod q.1 ∈ tables_1 ∧ Cond.instanceMethod q.1 ∈ tables_1
theorem lw_p0 : lw_okq (⟨"java/util/ArrayList", "add", "(Ljava/lang/Object;[Ljava/lang/Object;I)V"⟩, 3) := ⟨⟨by decide +kernel, by decide +kernel⟩, List.mem_of_getElem? (i := 36) (by decide +kernel), List.mem_of_getElem? (i := 105) (by decide +kernel), List.mem_of_getElem? (i := 106) (by decide +kernel)⟩
theorem lw_p1 : lw_okq (⟨"java/util/ArrayList", "grow", "()[Ljava/lang/Object;"⟩, 3) := ⟨⟨by decide +kernel, by decide +kernel⟩, List.mem_of_getElem? (i := 36) (by decide +kernel), List.mem_of_getElem? (i := 109) (by decide +kernel), List.mem_of_getElem? (i := 110) (by decide +kernel)⟩
theorem lw_p2 : lw_okq (⟨"java/util/ArrayList", "grow", "(I)[Ljava/lang/Object;"⟩, 3) := ⟨⟨by decide +kernel, by decide +kernel⟩, List.mem_of_getElem? (i := 36) (by decide +kernel), List.mem_of_getElem? (i := 113) (by decide +kernel), List.mem_of_getElem? (i := 114) (by decide +kernel)⟩
theorem lw_p3 : lw_okq (⟨"ChargeYard", "firmAt", "(I)LChargeYard$Firm;"⟩, 11) := ⟨⟨by decide +kernel, by decide +kernel⟩, List.mem_of_getElem? (i := 28) (by decide +kernel), List.mem_of_getElem? (i := 211) (by decide +kernel), List.mem_of_getElem? (i := 212) (by decide +kernel)⟩
theorem lw_p4 : lw_okq (⟨"java/lang/Throwable", "fillInStackTrace", "(I)Ljava/lang/Throwable;"⟩, 6) := ⟨⟨by decide +kernel, by decide +kernel⟩, List.mem_of_getElem? (i := 257) (by decide +kernel), List.mem_of_getElem? (i := 255) (by decide +kernel), List.mem_of_getElem? (i := 256) (by decide +kernel)⟩
theorem lw_p5 : lw_okq (⟨"ChargeYard", "cardAt", "(I)LChargeYard$Card;"⟩, 11) := ⟨⟨by decide +kernel, by decide +kernel⟩, List.mem_of_getElem? (i := 28) (by decide +kernel), List.mem_of_getElem? (i := 460) (by decide +kernel), List.mem_of_getElem? (i := 461) (by decide +kernel)⟩
theorem lw_p6 : lw_okq (⟨"ChargeYard", "setLimit", "(I)I"⟩, 11) := ⟨⟨by decide +kernel, by decide +kernel⟩, List.mem_of_getElem? (i := 28) (by decide +kernel), List.mem_of_getElem? (i := 472) (by decide +kernel), List.mem_of_getElem? (i := 473) (by decide +kernel)⟩
theorem lw_p7 : lw_okq (⟨"ChargeYard", "setSun", "(I)I"⟩, 11) := ⟨⟨by decide +kernel, by decide +kernel⟩, List.mem_of_getElem? (i := 28) (by decide +kernel), List.mem_of_getElem? (i := 477) (by decide +kernel), List.mem_of_getElem? (i := 478) (by decide +kernel)⟩
theorem lw_p8 : lw_okq (⟨"ChargeYard", "setDegrees", "(I)I"⟩, 11) := ⟨⟨by decide +kernel, by decide +kernel⟩, List.mem_of_getElem? (i := 28) (by decide +kernel), List.mem_of_getElem? (i := 482) (by decide +kernel), List.mem_of_getElem? (i := 483) (by decide +kernel)⟩
theorem lw_p9 : lw_okq (⟨"ChargeYard", "socketAt", "(I)LChargeYard$Socket;"⟩, 11) := ⟨⟨by decide +kernel, by decide +kernel⟩, List.mem_of_getElem? (i := 28) (by decide +kernel), List.mem_of_getElem? (i := 493) (by decide +kernel), List.mem_of_getElem? (i := 494) (by decide +kernel)⟩
theorem lw_p10 : lw_okq (⟨"ChargeYard", "hearWaiting", "(LChargeYard$Socket;)I"⟩, 11) := ⟨⟨by decide +kernel, by decide +kernel⟩, List.mem_of_getElem? (i := 28) (by decide +kernel), List.mem_of_getElem? (i := 505) (by decide +kernel), List.mem_of_getElem? (i := 506) (by decide +kernel)⟩
theorem lw_p11 : lw_okq (⟨"ChargeYard$Values", "takeInto", "(LChargeYard$Tally;I)V"⟩, 5) := ⟨⟨by decide +kernel, by decide +kernel⟩, List.mem_of_getElem? (i := 516) (by decide +kernel), List.mem_of_getElem? (i := 514) (by decide +kernel), List.mem_of_getElem? (i := 515) (by decide +kernel)⟩
theorem lw_p12 : lw_okq (⟨"ChargeYard", "goDown", "(LChargeYard$Socket;)V"⟩, 11) := ⟨⟨by decide +kernel, by decide +kernel⟩, List.mem_of_getElem? (i := 28) (by decide +kernel), List.mem_of_getElem? (i := 548) (by decide +kernel), List.mem_of_getElem? (i := 549) (by decide +kernel)⟩
theorem lw_p13 : lw_okq (⟨"ChargeYard", "carAt", "(I)LChargeYard$Car;"⟩, 11) := ⟨⟨by decide +kernel, by decide +kernel⟩, List.mem_of_getElem? (i := 28) (by decide +kernel), List.mem_of_getElem? (i := 598) (by decide +kernel), List.mem_of_getElem? (i := 599) (by decide +kernel)⟩
theorem lw_p14 : lw_okq (⟨"ChargeYard", "refusalOf", "(LChargeYard$Socket;LChargeYard$Car;LChargeYard$Card;)I"⟩, 11) := ⟨⟨by decide +kernel, by decide +kernel⟩, List.mem_of_getElem? (i := 28) (by decide +kernel), List.mem_of_getElem? (i := 603) (by decide +kernel), List.mem_of_getElem? (i := 604) (by decide +kernel)⟩
theorem lw_p15 : lw_okq (⟨"ChargeYard", "isBookedByAnother", "(LChargeYard$Socket;LChargeYard$Card;)Z"⟩, 11) := ⟨⟨by decide +kernel, by decide +kernel⟩, List.mem_of_getElem? (i := 28) (by decide +kernel), List.mem_of_getElem? (i := 607) (by decide +kernel), List.mem_of_getElem? (i := 608) (by decide +kernel)⟩
def lw_privs_1 : List (MethodName × Nat) := [(⟨"java/util/ArrayList", "add", "(Ljava/lang/Object;[Ljava/lang/Object;I)V"⟩, 3), (⟨"java/util/ArrayList", "grow", "()[Ljava/lang/Object;"⟩, 3), (⟨"java/util/ArrayList", "grow", "(I)[Ljava/lang/Object;"⟩, 3), (⟨"ChargeYard", "firmAt", "(I)LChargeYard$Firm;"⟩, 11), (⟨"java/lang/Throwable", "fillInStackTrace", "(I)Ljava/lang/Throwable;"⟩, 6), (⟨"ChargeYard", "cardAt", "(I)LChargeYard$Card;"⟩, 11), (⟨"ChargeYard", "setLimit", "(I)I"⟩, 11), (⟨"ChargeYard", "setSun", "(I)I"⟩, 11), (⟨"ChargeYard", "setDegrees", "(I)I"⟩, 11), (⟨"ChargeYard", "socketAt", "(I)LChargeYard$Socket;"⟩, 11), (⟨"ChargeYard", "hearWaiting", "(LChargeYard$Socket;)I"⟩, 11), (⟨"ChargeYard$Values", "takeInto", "(LChargeYard$Tally;I)V"⟩, 5), (⟨"ChargeYard", "goDown", "(LChargeYard$Socket;)V"⟩, 11), (⟨"ChargeYard", "carAt", "(I)LChargeYard$Car;"⟩, 11), (⟨"ChargeYard", "refusalOf", "(LChargeYard$Socket;LChargeYard$Car;LChargeYard$Card;)I"⟩, 11), (⟨"ChargeYard", "isBookedByAnother", "(LChargeYard$Socket;LChargeYard$Card;)Z"⟩, 11)]
theorem lw_r1 : ∀ q ∈ lw_privs_1, lw_okq q := List.forall_mem_cons.mpr ⟨lw_p0, List.forall_mem_cons.mpr ⟨lw_p1, List.forall_mem_cons.mpr ⟨lw_p2, List.forall_mem_cons.mpr ⟨lw_p3, List.forall_mem_cons.mpr ⟨lw_p4, List.forall_mem_cons.mpr ⟨lw_p5, List.forall_mem_cons.mpr ⟨lw_p6, List.forall_mem_cons.mpr ⟨lw_p7, List.forall_mem_cons.mpr ⟨lw_p8, List.forall_mem_cons.mpr ⟨lw_p9, List.forall_mem_cons.mpr ⟨lw_p10, List.forall_mem_cons.mpr ⟨lw_p11, List.forall_mem_cons.mpr ⟨lw_p12, List.forall_mem_cons.mpr ⟨lw_p13, List.forall_mem_cons.mpr ⟨lw_p14, List.forall_mem_cons.mpr ⟨lw_p15, fun _ h => absurd h List.not_mem_nil⟩⟩⟩⟩⟩⟩⟩⟩⟩⟩⟩⟩⟩⟩⟩⟩
theorem lw_p16 : lw_okq (⟨"ChargeYard", "begin", "(LChargeYard$Session;)V"⟩, 11) := ⟨⟨by decide +kernel, by decide +kernel⟩, List.mem_of_getElem? (i := 28) (by decide +kernel), List.mem_of_getElem? (i := 724) (by decide +kernel), List.mem_of_getElem? (i := 725) (by decide +kernel)⟩
theorem lw_p17 : lw_okq (⟨"ChargeYard", "useBooking", "(LChargeYard$Socket;LChargeYard$Card;)V"⟩, 11) := ⟨⟨by decide +kernel, by decide +kernel⟩, List.mem_of_getElem? (i := 28) (by decide +kernel), List.mem_of_getElem? (i := 728) (by decide +kernel), List.mem_of_getElem? (i := 729) (by decide +kernel)⟩
theorem lw_p18 : lw_okq (⟨"java/util/ArrayList", "fastRemove", "([Ljava/lang/Object;I)V"⟩, 3) := ⟨⟨by decide +kernel, by decide +kernel⟩, List.mem_of_getElem? (i := 36) (by decide +kernel), List.mem_of_getElem? (i := 736) (by decide +kernel), List.mem_of_getElem? (i := 737) (by decide +kernel)⟩
theorem lw_p19 : lw_okq (⟨"ChargeYard", "sessionAt", "(I)LChargeYard$Session;"⟩, 11) := ⟨⟨by decide +kernel, by decide +kernel⟩, List.mem_of_getElem? (i := 28) (by decide +kernel), List.mem_of_getElem? (i := 748) (by decide +kernel), List.mem_of_getElem? (i := 749) (by decide +kernel)⟩
theorem lw_p20 : lw_okq (⟨"ChargeYard", "leaveRunning", "(LChargeYard$Session;)V"⟩, 11) := ⟨⟨by decide +kernel, by decide +kernel⟩, List.mem_of_getElem? (i := 28) (by decide +kernel), List.mem_of_getElem? (i := 754) (by decide +kernel), List.mem_of_getElem? (i := 755) (by decide +kernel)⟩
theorem lw_p21 : lw_okq (⟨"ChargeYard", "passMinute", "()V"⟩, 11) := ⟨⟨by decide +kernel, by decide +kernel⟩, List.mem_of_getElem? (i := 28) (by decide +kernel), List.mem_of_getElem? (i := 766) (by decide +kernel), List.mem_of_getElem? (i := 767) (by decide +kernel)⟩
theorem lw_p22 : lw_okq (⟨"ChargeYard", "serveFirst", "()I"⟩, 11) := ⟨⟨by decide +kernel, by decide +kernel⟩, List.mem_of_getElem? (i := 28) (by decide +kernel), List.mem_of_getElem? (i := 770) (by decide +kernel), List.mem_of_getElem? (i := 771) (by decide +kernel)⟩
theorem lw_p23 : lw_okq (⟨"ChargeYard", "serveRanks", "(IZ)I"⟩, 11) := ⟨⟨by decide +kernel, by decide +kernel⟩, List.mem_of_getElem? (i := 28) (by decide +kernel), List.mem_of_getElem? (i := 789) (by decide +kernel), List.mem_of_getElem? (i := 790) (by decide +kernel)⟩
theorem lw_p24 : lw_okq (⟨"ChargeYard", "shareByLevels", "(I)V"⟩, 11) := ⟨⟨by decide +kernel, by decide +kernel⟩, List.mem_of_getElem? (i := 28) (by decide +kernel), List.mem_of_getElem? (i := 793) (by decide +kernel), List.mem_of_getElem? (i := 794) (by decide +kernel)⟩
theorem lw_p25 : lw_okq (⟨"ChargeYard", "raise", "(II)V"⟩, 11) := ⟨⟨by decide +kernel, by decide +kernel⟩, List.mem_of_getElem? (i := 28) (by decide +kernel), List.mem_of_getElem? (i := 801) (by decide +kernel), List.mem_of_getElem? (i := 802) (by decide +kernel)⟩
theorem lw_p26 : lw_okq (⟨"ChargeYard", "listCards", "()V"⟩, 11) := ⟨⟨by decide +kernel, by decide +kernel⟩, List.mem_of_getElem? (i := 28) (by decide +kernel), List.mem_of_getElem? (i := 827) (by decide +kernel), List.mem_of_getElem? (i := 828) (by decide +kernel)⟩
theorem lw_p27 : lw_okq (⟨"ChargeYard", "dropLateBookings", "()V"⟩, 11) := ⟨⟨by decide +kernel, by decide +kernel⟩, List.mem_of_getElem? (i := 28) (by decide +kernel), List.mem_of_getElem? (i := 831) (by decide +kernel), List.mem_of_getElem? (i := 832) (by decide +kernel)⟩
theorem lw_p28 : lw_okq (⟨"ChargeYard", "shareWattByWatt", "(I)V"⟩, 11) := ⟨⟨by decide +kernel, by decide +kernel⟩, List.mem_of_getElem? (i := 28) (by decide +kernel), List.mem_of_getElem? (i := 869) (by decide +kernel), List.mem_of_getElem? (i := 870) (by decide +kernel)⟩
theorem lw_p29 : lw_okq (⟨"ChargeYardModel", "stop", "(I)I"⟩, 50) := ⟨⟨by decide +kernel, by decide +kernel⟩, List.mem_of_getElem? (i := 917) (by decide +kernel), List.mem_of_getElem? (i := 1089) (by decide +kernel), List.mem_of_getElem? (i := 1090) (by decide +kernel)⟩
theorem lw_p30 : lw_okq (⟨"ChargeYardModel", "isCard", "(I)Z"⟩, 50) := ⟨⟨by decide +kernel, by decide +kernel⟩, List.mem_of_getElem? (i := 917) (by decide +kernel), List.mem_of_getElem? (i := 1107) (by decide +kernel), List.mem_of_getElem? (i := 1108) (by decide +kernel)⟩
theorem lw_p31 : lw_okq (⟨"ChargeYardModel", "refuse", "(I)Z"⟩, 50) := ⟨⟨by decide +kernel, by decide +kernel⟩, List.mem_of_getElem? (i := 917) (by decide +kernel), List.mem_of_getElem? (i := 1111) (by decide +kernel), List.mem_of_getElem? (i := 1112) (by decide +kernel)⟩
def lw_privs_2 : List (MethodName × Nat) := [(⟨"ChargeYard", "begin", "(LChargeYard$Session;)V"⟩, 11), (⟨"ChargeYard", "useBooking", "(LChargeYard$Socket;LChargeYard$Card;)V"⟩, 11), (⟨"java/util/ArrayList", "fastRemove", "([Ljava/lang/Object;I)V"⟩, 3), (⟨"ChargeYard", "sessionAt", "(I)LChargeYard$Session;"⟩, 11), (⟨"ChargeYard", "leaveRunning", "(LChargeYard$Session;)V"⟩, 11), (⟨"ChargeYard", "passMinute", "()V"⟩, 11), (⟨"ChargeYard", "serveFirst", "()I"⟩, 11), (⟨"ChargeYard", "serveRanks", "(IZ)I"⟩, 11), (⟨"ChargeYard", "shareByLevels", "(I)V"⟩, 11), (⟨"ChargeYard", "raise", "(II)V"⟩, 11), (⟨"ChargeYard", "listCards", "()V"⟩, 11), (⟨"ChargeYard", "dropLateBookings", "()V"⟩, 11), (⟨"ChargeYard", "shareWattByWatt", "(I)V"⟩, 11), (⟨"ChargeYardModel", "stop", "(I)I"⟩, 50), (⟨"ChargeYardModel", "isCard", "(I)Z"⟩, 50), (⟨"ChargeYardModel", "refuse", "(I)Z"⟩, 50)]
theorem lw_r2 : ∀ q ∈ lw_privs_2, lw_okq q := List.forall_mem_cons.mpr ⟨lw_p16, List.forall_mem_cons.mpr ⟨lw_p17, List.forall_mem_cons.mpr ⟨lw_p18, List.forall_mem_cons.mpr ⟨lw_p19, List.forall_mem_cons.mpr ⟨lw_p20, List.forall_mem_cons.mpr ⟨lw_p21, List.forall_mem_cons.mpr ⟨lw_p22, List.forall_mem_cons.mpr ⟨lw_p23, List.forall_mem_cons.mpr ⟨lw_p24, List.forall_mem_cons.mpr ⟨lw_p25, List.forall_mem_cons.mpr ⟨lw_p26, List.forall_mem_cons.mpr ⟨lw_p27, List.forall_mem_cons.mpr ⟨lw_p28, List.forall_mem_cons.mpr ⟨lw_p29, List.forall_mem_cons.mpr ⟨lw_p30, List.forall_mem_cons.mpr ⟨lw_p31, fun _ h => absurd h List.not_mem_nil⟩⟩⟩⟩⟩⟩⟩⟩⟩⟩⟩⟩⟩⟩⟩⟩
theorem lw_p32 : lw_okq (⟨"ChargeYardModel", "isSocket", "(I)Z"⟩, 50) := ⟨⟨by decide +kernel, by decide +kernel⟩, List.mem_of_getElem? (i := 917) (by decide +kernel), List.mem_of_getElem? (i := 1125) (by decide +kernel), List.mem_of_getElem? (i := 1126) (by decide +kernel)⟩
theorem lw_p33 : lw_okq (⟨"ChargeYardModel", "hear", "(I)I"⟩, 50) := ⟨⟨by decide +kernel, by decide +kernel⟩, List.mem_of_getElem? (i := 917) (by decide +kernel), List.mem_of_getElem? (i := 1133) (by decide +kernel), List.mem_of_getElem? (i := 1134) (by decide +kernel)⟩
theorem lw_p34 : lw_okq (⟨"ChargeYardModel", "payFor", "(I)V"⟩, 50) := ⟨⟨by decide +kernel, by decide +kernel⟩, List.mem_of_getElem? (i := 917) (by decide +kernel), List.mem_of_getElem? (i := 1137) (by decide +kernel), List.mem_of_getElem? (i := 1138) (by decide +kernel)⟩
theorem lw_p35 : lw_okq (⟨"ChargeYardModel", "billBy", "(IIII)I"⟩, 50) := ⟨⟨by decide +kernel, by decide +kernel⟩, List.mem_of_getElem? (i := 917) (by decide +kernel), List.mem_of_getElem? (i := 1141) (by decide +kernel), List.mem_of_getElem? (i := 1142) (by decide +kernel)⟩
theorem lw_p36 : lw_okq (⟨"ChargeYardModel", "owe", "(II)V"⟩, 50) := ⟨⟨by decide +kernel, by decide +kernel⟩, List.mem_of_getElem? (i := 917) (by decide +kernel), List.mem_of_getElem? (i := 1148) (by decide +kernel), List.mem_of_getElem? (i := 1149) (by decide +kernel)⟩
theorem lw_p37 : lw_okq (⟨"ChargeYardModel", "holding", "(I)I"⟩, 50) := ⟨⟨by decide +kernel, by decide +kernel⟩, List.mem_of_getElem? (i := 917) (by decide +kernel), List.mem_of_getElem? (i := 1164) (by decide +kernel), List.mem_of_getElem? (i := 1165) (by decide +kernel)⟩
theorem lw_p38 : lw_okq (⟨"ChargeYardModel", "isAway", "(I)Z"⟩, 50) := ⟨⟨by decide +kernel, by decide +kernel⟩, List.mem_of_getElem? (i := 917) (by decide +kernel), List.mem_of_getElem? (i := 1168) (by decide +kernel), List.mem_of_getElem? (i := 1169) (by decide +kernel)⟩
theorem lw_p39 : lw_okq (⟨"ChargeYardModel", "goes", "(II)V"⟩, 50) := ⟨⟨by decide +kernel, by decide +kernel⟩, List.mem_of_getElem? (i := 917) (by decide +kernel), List.mem_of_getElem? (i := 1172) (by decide +kernel), List.mem_of_getElem? (i := 1173) (by decide +kernel)⟩
theorem lw_p40 : lw_okq (⟨"ChargeYardModel", "isSession", "(I)Z"⟩, 50) := ⟨⟨by decide +kernel, by decide +kernel⟩, List.mem_of_getElem? (i := 917) (by decide +kernel), List.mem_of_getElem? (i := 1180) (by decide +kernel), List.mem_of_getElem? (i := 1181) (by decide +kernel)⟩
theorem lw_p41 : lw_okq (⟨"ChargeYardModel", "passOne", "()V"⟩, 50) := ⟨⟨by decide +kernel, by decide +kernel⟩, List.mem_of_getElem? (i := 917) (by decide +kernel), List.mem_of_getElem? (i := 1188) (by decide +kernel), List.mem_of_getElem? (i := 1189) (by decide +kernel)⟩
theorem lw_p42 : lw_okq (⟨"ChargeYardModel", "find", "()I"⟩, 50) := ⟨⟨by decide +kernel, by decide +kernel⟩, List.mem_of_getElem? (i := 917) (by decide +kernel), List.mem_of_getElem? (i := 1192) (by decide +kernel), List.mem_of_getElem? (i := 1193) (by decide +kernel)⟩
theorem lw_p43 : lw_okq (⟨"ChargeYardModel", "wants", "(I)I"⟩, 50) := ⟨⟨by decide +kernel, by decide +kernel⟩, List.mem_of_getElem? (i := 917) (by decide +kernel), List.mem_of_getElem? (i := 1196) (by decide +kernel), List.mem_of_getElem? (i := 1197) (by decide +kernel)⟩
theorem lw_p44 : lw_okq (⟨"ChargeYardModel", "cap", "(I)I"⟩, 50) := ⟨⟨by decide +kernel, by decide +kernel⟩, List.mem_of_getElem? (i := 917) (by decide +kernel), List.mem_of_getElem? (i := 1202) (by decide +kernel), List.mem_of_getElem? (i := 1203) (by decide +kernel)⟩
theorem lw_p45 : lw_okq (⟨"ChargeYardModel", "serve", "(IZ)I"⟩, 50) := ⟨⟨by decide +kernel, by decide +kernel⟩, List.mem_of_getElem? (i := 917) (by decide +kernel), List.mem_of_getElem? (i := 1206) (by decide +kernel), List.mem_of_getElem? (i := 1207) (by decide +kernel)⟩
theorem lw_p46 : lw_okq (⟨"ChargeYardModel", "behind", "(I)I"⟩, 50) := ⟨⟨by decide +kernel, by decide +kernel⟩, List.mem_of_getElem? (i := 917) (by decide +kernel), List.mem_of_getElem? (i := 1210) (by decide +kernel), List.mem_of_getElem? (i := 1211) (by decide +kernel)⟩
theorem lw_p47 : lw_okq (⟨"ChargeYardModel", "isServed", "(I)Z"⟩, 50) := ⟨⟨by decide +kernel, by decide +kernel⟩, List.mem_of_getElem? (i := 917) (by decide +kernel), List.mem_of_getElem? (i := 1214) (by decide +kernel), List.mem_of_getElem? (i := 1215) (by decide +kernel)⟩
def lw_privs_3 : List (MethodName × Nat) := [(⟨"ChargeYardModel", "isSocket", "(I)Z"⟩, 50), (⟨"ChargeYardModel", "hear", "(I)I"⟩, 50), (⟨"ChargeYardModel", "payFor", "(I)V"⟩, 50), (⟨"ChargeYardModel", "billBy", "(IIII)I"⟩, 50), (⟨"ChargeYardModel", "owe", "(II)V"⟩, 50), (⟨"ChargeYardModel", "holding", "(I)I"⟩, 50), (⟨"ChargeYardModel", "isAway", "(I)Z"⟩, 50), (⟨"ChargeYardModel", "goes", "(II)V"⟩, 50), (⟨"ChargeYardModel", "isSession", "(I)Z"⟩, 50), (⟨"ChargeYardModel", "passOne", "()V"⟩, 50), (⟨"ChargeYardModel", "find", "()I"⟩, 50), (⟨"ChargeYardModel", "wants", "(I)I"⟩, 50), (⟨"ChargeYardModel", "cap", "(I)I"⟩, 50), (⟨"ChargeYardModel", "serve", "(IZ)I"⟩, 50), (⟨"ChargeYardModel", "behind", "(I)I"⟩, 50), (⟨"ChargeYardModel", "isServed", "(I)Z"⟩, 50)]
theorem lw_r3 : ∀ q ∈ lw_privs_3, lw_okq q := List.forall_mem_cons.mpr ⟨lw_p32, List.forall_mem_cons.mpr ⟨lw_p33, List.forall_mem_cons.mpr ⟨lw_p34, List.forall_mem_cons.mpr ⟨lw_p35, List.forall_mem_cons.mpr ⟨lw_p36, List.forall_mem_cons.mpr ⟨lw_p37, List.forall_mem_cons.mpr ⟨lw_p38, List.forall_mem_cons.mpr ⟨lw_p39, List.forall_mem_cons.mpr ⟨lw_p40, List.forall_mem_cons.mpr ⟨lw_p41, List.forall_mem_cons.mpr ⟨lw_p42, List.forall_mem_cons.mpr ⟨lw_p43, List.forall_mem_cons.mpr ⟨lw_p44, List.forall_mem_cons.mpr ⟨lw_p45, List.forall_mem_cons.mpr ⟨lw_p46, List.forall_mem_cons.mpr ⟨lw_p47, fun _ h => absurd h List.not_mem_nil⟩⟩⟩⟩⟩⟩⟩⟩⟩⟩⟩⟩⟩⟩⟩⟩
theorem lw_p48 : lw_okq (⟨"ChargeYardModel", "isAhead", "(II)Z"⟩, 50) := ⟨⟨by decide +kernel, by decide +kernel⟩, List.mem_of_getElem? (i := 917) (by decide +kernel), List.mem_of_getElem? (i := 1218) (by decide +kernel), List.mem_of_getElem? (i := 1219) (by decide +kernel)⟩
theorem lw_p49 : lw_okq (⟨"ChargeYardModel", "share", "(I)V"⟩, 50) := ⟨⟨by decide +kernel, by decide +kernel⟩, List.mem_of_getElem? (i := 917) (by decide +kernel), List.mem_of_getElem? (i := 1222) (by decide +kernel), List.mem_of_getElem? (i := 1223) (by decide +kernel)⟩
theorem lw_p50 : lw_okq (⟨"ChargeYardModel", "isOpen", "(I)Z"⟩, 50) := ⟨⟨by decide +kernel, by decide +kernel⟩, List.mem_of_getElem? (i := 917) (by decide +kernel), List.mem_of_getElem? (i := 1226) (by decide +kernel), List.mem_of_getElem? (i := 1227) (by decide +kernel)⟩
theorem lw_p51 : lw_okq (⟨"ChargeYardModel", "lateGo", "()V"⟩, 50) := ⟨⟨by decide +kernel, by decide +kernel⟩, List.mem_of_getElem? (i := 917) (by decide +kernel), List.mem_of_getElem? (i := 1231) (by decide +kernel), List.mem_of_getElem? (i := 1232) (by decide +kernel)⟩
def lw_privs_4 : List (MethodName × Nat) := [(⟨"ChargeYardModel", "isAhead", "(II)Z"⟩, 50), (⟨"ChargeYardModel", "share", "(I)V"⟩, 50), (⟨"ChargeYardModel", "isOpen", "(I)Z"⟩, 50), (⟨"ChargeYardModel", "lateGo", "()V"⟩, 50)]
theorem lw_r4 : ∀ q ∈ lw_privs_4, lw_okq q := List.forall_mem_cons.mpr ⟨lw_p48, List.forall_mem_cons.mpr ⟨lw_p49, List.forall_mem_cons.mpr ⟨lw_p50, List.forall_mem_cons.mpr ⟨lw_p51, fun _ h => absurd h List.not_mem_nil⟩⟩⟩⟩
def lw_privs : List (MethodName × Nat) := lw_privs_1 ++ (lw_privs_2 ++ (lw_privs_3 ++ (lw_privs_4)))
def lw_tbl : List Cond := k2_sels lw_privs ++ tables_1
theorem lw_privs_ok : ∀ q ∈ lw_privs, lw_okq q := by
  show ∀ q ∈ lw_privs_1 ++ (lw_privs_2 ++ (lw_privs_3 ++ (lw_privs_4))), lw_okq q
  exact List.forall_mem_append.mpr ⟨lw_r1, List.forall_mem_append.mpr ⟨lw_r2, List.forall_mem_append.mpr ⟨lw_r3, lw_r4⟩⟩⟩
-- ===== end of PART A; then your names; then what follows =====
end
section
/-! ===== BEGIN words of one list among another's, by their places ===== -/
theorem goodIn_r {big : List Cond} (ws : List Cond) (ps : List Nat) (hp : ws = ps.filterMap (fun i => big[i]?)) (h : ws.all goodWord = true) : GoodIn big ws := by
  intro w hw
  have h1 := List.all_eq_true.mp h w hw
  rw [hp] at hw
  obtain ⟨i, -, hi⟩ := List.mem_filterMap.mp hw
  have hm : w ∈ big := by first | exact List.mem_of_getElem? hi | exact List.getElem?_mem hi
  exact ⟨hm, good_of_word h1⟩
theorem goodIn_app {big a b : List Cond} (ha : GoodIn big a) (hb : GoodIn big b) : GoodIn big (a ++ b) := fun w h => (List.mem_append.mp h).elim (ha w) (hb w)
theorem goodIn_ca {big a b : List Cond} {c : Cond} (ha : GoodIn big (c :: a)) (hb : GoodIn big b) : GoodIn big (c :: (a ++ b)) := fun w h => (List.mem_cons.mp h).elim (fun e => ha w (List.mem_cons.mpr (Or.inl e))) (fun h => (List.mem_append.mp h).elim (fun h => ha w (List.mem_cons.mpr (Or.inr h))) (hb w))
theorem goodIn_sub {big ws : List Cond} (hm : ∀ w ∈ ws, w ∈ big) (h : ws.all goodWord = true) : GoodIn big ws := fun w hw => ⟨hm w hw, good_of_word (List.all_eq_true.mp h w hw)⟩
/-! ===== END ===== -/

/-! ===== BEGIN exceptions that leave a method, and their catching by the caller (launches without stack traces) ===== -/
section VXA
/-! The laws vx_back, vx_callV, vx_callS, vx_callSW, vx_throw0, vx_throwS follow proofs of the library, with one case more: JvmDerived/Free/Laws.lean (Back.of_free), Shelf42/LK1.lean (callV, callS), Shelf/KitTraced.lean (throwNew0V, throwNewS). -/
/-- where a method has thrown q: the class by its name, the cell, what was written, the world -/
def vx_T (XC : String → State → State → Prop) (st : State) (q : Addr) (t : State) (mc ms : Nat) (free : Addr → Prop) : Prop :=
  ∃ (E : String) (ce : Cell) (L : List Loc), XC E st t ∧ t.heap[q]? = some ce ∧ ce.vm = .none ∧ st.vm.findClass E = some ce.cls ∧ st.WarmedH t.vm ∧ st.sameButNew ({ t with vm := st.vm } : State) L mc ms ∧ ∀ z ∈ L, free z.base
def vx_Q (Qc : Array Value → State → Outcome → State → Prop) (XC : String → State → State → Prop) (mc ms : Nat) (free : Addr → Prop) : Array Value → State → Outcome → State → Prop := fun a st o t =>
  (Qc a st o t ∧ ∃ L, FrameEnd st o t L mc ms ∧ ∀ q ∈ L, free q.base) ∨ ∃ q, o = .threw q ∧ vx_T XC st q t mc ms free
/-- a callee that returns or throws -/
def vx_Met (l : Launch) (y : MethodName) (ws : List Cond) (rm : Room) (Pc : Array Value → State → Prop) (Qc : Array Value → State → Outcome → State → Prop) (XC : String → State → State → Prop) (mc ms : Nat) (free : Addr → Prop) : Prop :=
  MetFree l y (headSpec ws rm) Pc (fun _ _ _ _ _ => True) (vx_Q Qc XC mc ms free)
def vx_Post (XC : String → State → State → Prop) (mc ms : Nat) (free : Addr → Prop) : Pt → Array Value → Addr → Pt → Prop := fun A a q B =>
  ∃ (g : JFrame) (mk : MethodId) (t : State) (L : List Loc) (E : String) (ce : Cell), B.U.heap = t.heap ∧ B.U.vm = t.vm ∧ XC E (A.U.calling g mk a) t ∧ t.heap[q]? = some ce ∧ ce.vm = .none ∧ A.U.vm.findClass E = some ce.cls ∧ B.locs = A.locs ++ L ∧ (∀ z ∈ L, free z.base) ∧ B.cells = A.cells + mc ∧ B.slots = A.slots + ms
def vx_Back (l : Launch) (R : Room) (p : Program) (e : Env) (below : List Frame) (s : State) (sargs : Array Value) (y : MethodName) (len W9 : Nat)
    (Pre : Pt → Array Value → Prop) (Post : Pt → Array Value → Option Value → Pt → Prop) (PostX : Pt → Array Value → Addr → Pt → Prop) : Prop :=
  ∀ (m : MethodId) (meth : Method) (c : Code) (A : Pt) (g : JFrame) (ig : Instr) (mk : MethodId) (a : Array Value),
    Stand p l e R s m sargs below meth c A.U A.locs A.cells A.slots → g.method = m → g.locals.size = c.maxLocals → decode c.code g.pc = .ok (ig, len) →
    2 * g.monitorRoom + (g.stack.map fun v => v.category).sum ≤ W9 → A.U.methodNamed? y = some mk → Pre A a →
    (∃ (v : Option Value) (B : Pt), Stand p l e R s m sargs below meth c B.U B.locs B.cells B.slots ∧ Post A a v B ∧
      Steps p.tables e below (doInvoke e (A.U.setTop g) [] mk a).1 (B.U.setTop { g with pc := g.pc + len, stack := v.toList ++ g.stack })) ∨
    (∃ (q : Addr) (B : Pt), Stand p l e R s m sargs below meth c B.U B.locs B.cells B.slots ∧ PostX A a q B ∧
      Steps p.tables e below (doInvoke e (A.U.setTop g) [] mk a).1 ((B.U.setTop g).pushFrame (.throwing q)))
section Payer
variable {l : Launch} {R : Room} {p : Program} {e : Env} {below : List Frame} {s : State} {sargs : Array Value} {y : MethodName} {len W9 : Nat}
theorem vx_back {ws : List Cond} {rm : Room} {Pc : Array Value → State → Prop} {Qc : Array Value → State → Outcome → State → Prop} {XC : String → State → State → Prop} {mc ms : Nat} {free : Addr → Prop} {bytes : ByteArray} {maxL : Nat} {ret : Option FieldType}
    (hM : vx_Met l y ws rm Pc Qc XC mc ms free) (hblind : FrameBlind Pc) (hrc : rm.cells = mc) (hrs : rm.slots = ms)
    (hframes : rm.frames + 1 ≤ R.frames) (hlocals : W9 + (maxL + 11) + rm.locals ≤ R.locals)
    (hws : ∀ w ∈ ws, ∀ a' U, s.WarmedH U.vm → w.before a' U = true) (hcode : Cond.code y bytes maxL ret ∈ ws) (hinit : ∀ a' U, s.WarmedH U.vm → (Cond.initialized y.cls).before a' U = true) :
    vx_Back l R p e below s sargs y len W9 (PreOf R mc ms Pc) (PostOf Qc mc ms free) (vx_Post XC mc ms free) := by
  intro m meth c A g ig mk a X hg hsize hdg hW hn hp
  have h1 : (headSpec ws rm).pre.before a A.U = true := atoms_intro fun w hw => hws w hw _ _ X.warmed
  have h2 : (Cond.code y bytes maxL ret).before a A.U = true := hws _ hcode _ _ X.warmed
  have h3 : (Cond.initialized y.cls).before a A.U = true := hinit _ _ X.warmed
  have h4 : A.cells + (headSpec ws rm).room.cells ≤ R.cells := by rw [show (headSpec ws rm).room.cells = mc from hrc]; exact hp.1
  have h5 : A.slots + (headSpec ws rm).room.slots ≤ R.slots := by rw [show (headSpec ws rm).room.slots = ms from hrs]; exact hp.2.1
  have hPc : Pc a (A.U.calling g mk a) := hblind _ _ _ _ hp.2.2
  obtain ⟨U, Ls, c0, s0⟩ := A
  dsimp only [Pt.U, Pt.locs, Pt.cells, Pt.slots] at h1 h2 h3 h4 h5 X hn hPc ⊢
  obtain ⟨methY, cY, hmY, hcY, -, hlY, -, -, -, -⟩ := Cond.code_spec hn h2
  obtain ⟨kY, hkY, -⟩ := className_of_methodNamed hn
  have hinitY : kY.init = .initialized := Cond.initialized_spec (findClass_of_methodNamed hn) hkY h3
  have h : At U g.method c below := by rw [hg]; exact X.here
  have hlocals9 : W9 + (maxL + 11) + (headSpec ws rm).room.locals ≤ R.locals := hlocals
  have happ : (headSpec ws rm).appliesLoose y e.platform (U.calling g mk a) = true :=
    Spec.appliesLoose_calling (g := g) h hdg hn hkY hinitY
      (X.room_calling (g := g) (R' := (headSpec ws rm).room) hsize hmY hcY hframes (by rw [hlY]; omega) h4 h5) h1
  obtain ⟨mid, hmid⟩ := h.above
  have hfr : (U.setTop g).frames = (.java g :: mid) ++ below := by rw [State.frames_setTop' g h.top, hmid]; rfl
  obtain ⟨o, s₂, hsteps, -, hend, hq⟩ := Steps.callFree hM p X.admits X.cas X.clock (acts := []) hfr happ hPc trivial
  have hq' : vx_Q Qc XC mc ms free a (U.calling g mk a) o s₂ := hq
  rw [State.frames_setTop' g h.top] at hend
  obtain ⟨g₀, hg0⟩ := Option.isSome_iff_exists.mp h.top
  obtain ⟨r, hr⟩ := State.topJava?_eq_some.mp hg0
  have hr' : (({ U with heap := s₂.heap, slotsUsed := s₂.slotsUsed } : State).setVm s₂.vm).frames = .java g₀ :: r := hr
  rcases hq' with ⟨hqc, L, hfe, hL⟩ | ⟨q, rfl, E, ce, L, hx, hce, hcv, hcl, hW₂, hsm, hL⟩
  · obtain ⟨⟨v, rfl⟩, hW₂, e2, q2, q3, q4, q5, q6⟩ := id hfe
    have e3 : s₂ = ({ (U.calling g mk a).setFrames s₂.frames with heap := s₂.heap, slotsUsed := s₂.slotsUsed } : State).setVm s₂.vm := by
      have : s₂ = ({ s₂ with vm := (U.calling g mk a).vm } : State).setVm s₂.vm := rfl
      rw [e2] at this
      exact this
    obtain ⟨c₂, i₂, len₂, hc₂, hd₂, hf₂⟩ := hend
    have hW' : U.WarmedH s₂.vm := hW₂
    have hcc : c₂ = c := by
      have h1 : s₂.code? g.method = U.code? g.method := by
        rw [State.code?_eq, State.code?_eq, hW'.alike.method?]
      exact Option.some.inj (hc₂.symm.trans (h1.trans h.code))
    subst hcc
    have hlen : len₂ = len := by rw [hdg] at hd₂; cases hd₂; rfl
    subst hlen
    have hs₂ : s₂ = (({ U with heap := s₂.heap, slotsUsed := s₂.slotsUsed } : State).setVm s₂.vm).setTop { g with pc := g.pc + len₂, stack := v.toList ++ g.stack } := by
      refine e3.trans ?_
      rw [hf₂, State.calling_eq h.top, State.setFrames_setFrames, State.setTop_of_frames _ hr', hr]
      rfl
    have hsame : U.sameButNew ({ U with heap := s₂.heap, slotsUsed := s₂.slotsUsed } : State) L mc ms := by
      refine ⟨?_, q2, q3, q4, q5, q6⟩
      obtain ⟨t, ht, -⟩ := State.frames_cons hr
      show ({ U with heap := s₂.heap, slotsUsed := s₂.slotsUsed } : State) = { U.setFrames U.frames with heap := s₂.heap, slotsUsed := s₂.slotsUsed }
      rw [State.setFrames_self ht]
    subst hg
    refine Or.inl ⟨v, ⟨(({ U with heap := s₂.heap, slotsUsed := s₂.slotsUsed } : State).setVm s₂.vm), Ls ++ L, c0 + mc, s0 + ms⟩,
      ⟨X.admits, X.cas, X.clock, X.frames, X.room, X.hears, X.method, X.code, (X.here.setHeapUsed s₂.heap s₂.slotsUsed).setVm hW'.alike, X.tail, State.WarmedH.trans X.warmed hW', X.limits, X.bytes, X.same.trans (hsame.setVm s.vm)⟩,
      ⟨g, mk, s₂, L, rfl, rfl, hqc, rfl, hL, rfl, rfl⟩, ?_⟩
    show Steps p.tables e below _ ((({ U with heap := s₂.heap, slotsUsed := s₂.slotsUsed } : State).setVm s₂.vm).setTop { g with pc := g.pc + len₂, stack := v.toList ++ g.stack })
    rw [← hs₂]
    exact hsteps
  · obtain ⟨e2, q2, q3, q4, q5, q6⟩ := id hsm
    have e3 : s₂ = ({ (U.calling g mk a).setFrames s₂.frames with heap := s₂.heap, slotsUsed := s₂.slotsUsed } : State).setVm s₂.vm := by
      have : s₂ = ({ s₂ with vm := (U.calling g mk a).vm } : State).setVm s₂.vm := rfl
      rw [e2] at this
      exact this
    have hf₂ : s₂.frames = .throwing q :: .java g :: U.frames.tail := hend
    have hW' : U.WarmedH s₂.vm := hW₂
    have hs₂ : s₂ = ((({ U with heap := s₂.heap, slotsUsed := s₂.slotsUsed } : State).setVm s₂.vm).setTop g).pushFrame (.throwing q) := by
      refine e3.trans ?_
      rw [hf₂, State.calling_eq h.top, State.setFrames_setFrames, State.pushFrame, State.frames_setTop _ hr', State.setTop_of_frames _ hr', State.setFrames_setFrames, hr]
      rfl
    have hsame : U.sameButNew ({ U with heap := s₂.heap, slotsUsed := s₂.slotsUsed } : State) L mc ms := by
      refine ⟨?_, q2, q3, q4, q5, q6⟩
      obtain ⟨t, ht, -⟩ := State.frames_cons hr
      show ({ U with heap := s₂.heap, slotsUsed := s₂.slotsUsed } : State) = { U.setFrames U.frames with heap := s₂.heap, slotsUsed := s₂.slotsUsed }
      rw [State.setFrames_self ht]
    subst hg
    refine Or.inr ⟨q, ⟨(({ U with heap := s₂.heap, slotsUsed := s₂.slotsUsed } : State).setVm s₂.vm), Ls ++ L, c0 + mc, s0 + ms⟩,
      ⟨X.admits, X.cas, X.clock, X.frames, X.room, X.hears, X.method, X.code, (X.here.setHeapUsed s₂.heap s₂.slotsUsed).setVm hW'.alike, X.tail, State.WarmedH.trans X.warmed hW', X.limits, X.bytes, X.same.trans (hsame.setVm s.vm)⟩,
      ⟨g, mk, s₂, L, E, ce, rfl, rfl, hx, hce, hcv, hcl, rfl, hL, rfl, rfl⟩, ?_⟩
    show Steps p.tables e below _ (((({ U with heap := s₂.heap, slotsUsed := s₂.slotsUsed } : State).setVm s₂.vm).setTop g).pushFrame (.throwing q))
    rw [← hs₂]
    exact hsteps
end Payer
section Calls
variable {p : Program} {l : Launch} {e : Env} {R : Room} {s : State} {m : MethodId} {args : Array Value} {below : List Frame} {meth : Method} {c : Code} {T : State} {locs : List Loc} {cells slots : Nat}
theorem vx_callV (X : Stand p l e R s m args below meth c T locs cells slots) (hexec : p.tables.exec = Jvm.exec) {own C : String} {index : Nat} {y : MethodName} {bytes : ByteArray} {maxL : Nat} {ret : Option FieldType}
    (hown : s.vm.findClass own = some m.cls) (hlink : (Cond.methodLink own index y).before args s = true) (hinst : (Cond.instanceMethod y).before args s = true) (hsel : (Cond.selects C y y).before args s = true)
    (hcode : (Cond.code y bytes maxL ret).before args s = true) (hy : y.cls ≠ "java/lang/invoke/MethodHandle" ∧ y.cls ≠ "java/lang/invoke/VarHandle")
    {W9 : Nat} {Pre : Pt → Array Value → Prop} {Post : Pt → Array Value → Option Value → Pt → Prop} {PostX : Pt → Array Value → Addr → Pt → Prop} (hK : vx_Back l R p e below s args y 3 W9 Pre Post PostX)
    {b : Addr} {cellB : Cell} (hcell : T.heap[b]? = some cellB) (hobj : cellB.vm.isStatics = false) (hcls : s.vm.findClass C = some cellB.cls)
    {g : JFrame} (hg : g.method = m) (hsize : g.locals.size = c.maxLocals) {argsL rest : List Value} (hlen : ∀ sig, parseMethodDescriptor y.desc = some sig → argsL.length = sig.parameters.length)
    (hstack : g.stack = argsL.reverse ++ .ref b :: rest) (hW : 2 * g.monitorRoom + (rest.map fun v => v.category).sum ≤ W9) (hdg : decode c.code g.pc = .ok (.invokevirtual index, 3))
    (hpre : ∀ vm₁, s.WarmedH vm₁ → Pre ⟨T.setVm vm₁, locs, cells, slots⟩ (Value.ref b :: argsL).toArray) :
    (∃ (v : Option Value) (vm₁ : Vm) (B : Pt), s.WarmedH vm₁ ∧ Stand p l e R s m args below meth c B.U B.locs B.cells B.slots ∧ Post ⟨T.setVm vm₁, locs, cells, slots⟩ (Value.ref b :: argsL).toArray v B ∧
      ∀ target, Steps p.tables e below (B.U.setTop { g with pc := g.pc + 3, stack := v.toList ++ rest }) target → Steps p.tables e below (T.setTop g) target) ∨
    (∃ (q : Addr) (vm₁ : Vm) (B : Pt), s.WarmedH vm₁ ∧ Stand p l e R s m args below meth c B.U B.locs B.cells B.slots ∧ PostX ⟨T.setVm vm₁, locs, cells, slots⟩ (Value.ref b :: argsL).toArray q B ∧
      Steps p.tables e below (T.setTop g) ((B.U.setTop { g with stack := rest }).pushFrame (.throwing q))) := by
  obtain ⟨mk, methM, hnamed, hmethM, hstM, habM⟩ := Cond.instanceMethod_spec hinst
  obtain ⟨methM', cM, hmethM', -, -, -, -, -, -, hsigM⟩ := Cond.code_spec hnamed hcode
  cases hmethM.symm.trans hmethM'
  obtain ⟨c2, r2, m2, q1, q2, q3, q4, kP, hkP, hkPi⟩ := Cond.selects_spec hsel
  cases hcls.symm.trans q1
  cases (State.methodFound?_of_named hnamed hy).symm.trans q2
  cases hnamed.symm.trans q3
  have hselP : selectMethod e.platform s.vm cellB.cls mk = .method mk := by rw [Launch.admits_selectMethod X.admits]; exact q4
  obtain ⟨vm₁, X₁, hstep₁⟩ := X.invokevirtual hexec hown hlink hnamed hmethM hstM hkP hkPi hy (a := b) (cell := cellB) hcell
    (fun z h => by rw [h] at hobj; cases hobj) hselP hmethM habM hkP hkPi (g := g) hg (argsL := argsL) (rest := rest) (hlen _ hsigM) hstack hdg
  rcases hK m meth c ⟨T.setVm vm₁, locs, cells, slots⟩ { g with stack := rest } (.invokevirtual index) mk (Value.ref b :: argsL).toArray X₁ hg hsize hdg hW (X₁.named hnamed) (hpre vm₁ X₁.warmed) with ⟨v, B, X', hpost, hsteps⟩ | ⟨q, B, X', hpost, hsteps⟩
  · exact Or.inl ⟨v, vm₁, B, X₁.warmed, X', hpost, fun target h => hstep₁ _ fun acts => by rw [doInvoke_state]; exact hsteps.trans h⟩
  · exact Or.inr ⟨q, vm₁, B, X₁.warmed, X', hpost, hstep₁ _ fun acts => by rw [doInvoke_state]; exact hsteps⟩
theorem vx_callS (X : Stand p l e R s m args below meth c T locs cells slots) (hexec : p.tables.exec = Jvm.exec) {own : String} {index : Nat} {y : MethodName} {bytes : ByteArray} {maxL : Nat} {ret : Option FieldType}
    (hown : s.vm.findClass own = some m.cls) (hlink : (Cond.methodLink own index y).before args s = true) (hstat : (Cond.static y).before args s = true) (hinit : (Cond.initialized y.cls).before args s = true)
    (hcode : (Cond.code y bytes maxL ret).before args s = true) (hy : y.cls ≠ "java/lang/invoke/MethodHandle" ∧ y.cls ≠ "java/lang/invoke/VarHandle")
    {W9 : Nat} {Pre : Pt → Array Value → Prop} {Post : Pt → Array Value → Option Value → Pt → Prop} {PostX : Pt → Array Value → Addr → Pt → Prop} (hK : vx_Back l R p e below s args y 3 W9 Pre Post PostX)
    {g : JFrame} (hg : g.method = m) (hsize : g.locals.size = c.maxLocals) {argsL rest : List Value} (hlen : ∀ sig, parseMethodDescriptor y.desc = some sig → argsL.length = sig.parameters.length)
    (hstack : g.stack = argsL.reverse ++ rest) (hW : 2 * g.monitorRoom + (rest.map fun v => v.category).sum ≤ W9) (hdg : decode c.code g.pc = .ok (.invokestatic index, 3))
    (hpre : ∀ vm₁, s.WarmedH vm₁ → Pre ⟨T.setVm vm₁, locs, cells, slots⟩ argsL.toArray) :
    (∃ (v : Option Value) (vm₁ : Vm) (B : Pt), s.WarmedH vm₁ ∧ Stand p l e R s m args below meth c B.U B.locs B.cells B.slots ∧ Post ⟨T.setVm vm₁, locs, cells, slots⟩ argsL.toArray v B ∧
      ∀ target, Steps p.tables e below (B.U.setTop { g with pc := g.pc + 3, stack := v.toList ++ rest }) target → Steps p.tables e below (T.setTop g) target) ∨
    (∃ (q : Addr) (vm₁ : Vm) (B : Pt), s.WarmedH vm₁ ∧ Stand p l e R s m args below meth c B.U B.locs B.cells B.slots ∧ PostX ⟨T.setVm vm₁, locs, cells, slots⟩ argsL.toArray q B ∧
      Steps p.tables e below (T.setTop g) ((B.U.setTop { g with stack := rest }).pushFrame (.throwing q))) := by
  obtain ⟨mk, hnamed⟩ := Cond.code_named hcode
  obtain ⟨methM, cM, hmethM, -, -, -, -, -, -, hsigM⟩ := Cond.code_spec hnamed hcode
  have hstatic : methM.isStatic = true := Cond.static_spec hnamed hmethM hstat
  obtain ⟨kP, hkP, -⟩ := className_of_methodNamed hnamed
  have hinitP : kP.init = .initialized := Cond.initialized_spec (findClass_of_methodNamed hnamed) hkP hinit
  obtain ⟨vm₁, X₁, hstep₁⟩ := X.invokestatic hexec hown hlink hnamed hmethM hstatic hkP hinitP hy (g := g) hg (argsL := argsL) (rest := rest) (hlen _ hsigM) hstack hdg
  rcases hK m meth c ⟨T.setVm vm₁, locs, cells, slots⟩ { g with stack := rest } (.invokestatic index) mk argsL.toArray X₁ hg hsize hdg hW (X₁.named hnamed) (hpre vm₁ X₁.warmed) with ⟨v, B, X', hpost, hsteps⟩ | ⟨q, B, X', hpost, hsteps⟩
  · exact Or.inl ⟨v, vm₁, B, X₁.warmed, X', hpost, fun target h => hstep₁ _ fun acts => by rw [doInvoke_state]; exact hsteps.trans h⟩
  · exact Or.inr ⟨q, vm₁, B, X₁.warmed, X', hpost, hstep₁ _ fun acts => by rw [doInvoke_state]; exact hsteps⟩
end Calls
theorem vx_cls {s : State} {T : State} {vm₁ : Vm} {E : String} {k : ClassId} (hW : s.WarmedH vm₁) (h : (T.setVm vm₁).vm.findClass E = some k) : s.vm.findClass E = some k := by
  have h1 : vm₁.findClass E = some k := h
  rw [hW.alike.findClass] at h1
  exact h1
/-- the method's frame g, with q thrown over it -/
def vx_W (p : Program) (l : Launch) (e : Env) (R : Room) (s : State) (m : MethodId) (args : Array Value) (below : List Frame) (meth : Method) (c : Code) (H : Heap) (locs : List Loc) (cells slots : Nat) (Q : State → Prop) (g : JFrame) (q : Addr) : Prop :=
  ∀ T : State, T.heap = H → Stand p l e R s m args below meth c T locs cells slots → ∃ t, Steps p.tables e below ((T.setTop g).pushFrame (.throwing q)) t ∧ Q t
def vx_Run (p : Program) (l : Launch) (e : Env) (R : Room) (s : State) (m : MethodId) (args : Array Value) (below : List Frame) (meth : Method) (c : Code) (H : Heap) (locs : List Loc) (cells slots mc ms : Nat) (g : JFrame) (rest : List Value) (Qa : State → Outcome → State → Prop) (XC : String → State → State → Prop) (free : Addr → Prop) : Prop :=
  ∀ T : State, T.heap = H → Stand p l e R s m args below meth c T locs cells slots →
    (∃ (v : Option Value) (st₀ t T' : State) (L : List Loc), st₀.heap = H ∧ Stand p l e R s m args below meth c T' (locs ++ L) (cells + mc) (slots + ms) ∧ (∀ q ∈ L, free q.base) ∧ T'.heap = t.heap ∧ T'.vm = t.vm ∧ Qa st₀ (.returned v) t ∧
      Goes p e below T g T' { g with pc := g.pc + 3, stack := v.toList ++ rest }) ∨
    (∃ (q : Addr) (st₀ t T' : State) (L : List Loc) (E : String) (ce : Cell), st₀.heap = H ∧ Stand p l e R s m args below meth c T' (locs ++ L) (cells + mc) (slots + ms) ∧ (∀ z ∈ L, free z.base) ∧ T'.heap = t.heap ∧ T'.vm = t.vm ∧ XC E st₀ t ∧ t.heap[q]? = some ce ∧ ce.vm = .none ∧ s.vm.findClass E = some ce.cls ∧
      Steps p.tables e below (T.setTop g) ((T'.setTop { g with stack := rest }).pushFrame (.throwing q)))
def vx_X {S : Type} (px : S → Prop) (B : String → S → State → Prop) (A : Nat → Prop) : String → State → State → Prop := fun E st t => ∃ u : S, px u ∧ B E u t ∧ va_F A st t
section Runs
variable {p : Program} {l : Launch} {e : Env} {R : Room} {s : State} {m : MethodId} {args : Array Value} {below : List Frame} {meth : Method} {c : Code} {H : Heap} {locs : List Loc} {cells slots : Nat}
variable {y : MethodName} {bytes cc : ByteArray} {maxL nL mc ms n index : Nat} {ret : Option FieldType} {ws : List Cond} {rm : Room} {Pc : Array Value → State → Prop} {Qc : Array Value → State → Outcome → State → Prop} {XC : String → State → State → Prop} {free : Addr → Prop} {Ts : List Cond} {own C : String} {b : Addr} {As rest : List Value} {g : JFrame}
theorem vx_callBack (cb : CallB R s args own index y bytes maxL ret ws rm mc ms n) (hM : vx_Met l y ws rm Pc Qc XC mc ms free) (hbl : FrameBlind Pc) : vx_Back l R p e below s args y 3 8 (PreOf R mc ms Pc) (PostOf Qc mc ms free) (vx_Post XC mc ms free) := by
  obtain ⟨hrc, hrs, hfr, hlo, hws, hcw, -, hini, -⟩ := cb
  exact vx_back (bytes := bytes) (maxL := maxL) (ret := ret) hM hbl hrc hrs hfr hlo hws hcw (fun a' U hW => word_at hW (Or.inl (by first | rfl | simp [Cond.onTables, Cond.keeps, Cond.steady])) hini)
theorem vx_runV (S : CallFix p m c cc nL s args Ts own) (hM : vx_Met l y ws rm Pc Qc XC mc ms free) (cw : CallW R s args own C index y bytes maxL ret ws rm mc ms n) (hp : PreV s H C b Pc As)
    (hg : g.method = m) (hn : As.length = n) (hsize : g.locals.size = nL) (hstack : g.stack = As.reverse ++ .ref b :: rest) (hW : 2 * g.monitorRoom + (rest.map fun v => v.category).sum ≤ 8) (hdg : decode cc g.pc = .ok (.invokevirtual index, 3)) (hf : cells + mc ≤ R.cells ∧ slots + ms ≤ R.slots) :
    vx_Run p l e R s m args below meth c H locs cells slots mc ms g rest (Qc (Value.ref b :: As).toArray) XC free := by
  have hK : vx_Back l R p e below s args y 3 8 (PreOf R mc ms Pc) (PostOf Qc mc ms free) (vx_Post XC mc ms free) := vx_callBack cw.1 hM hp.1
  obtain ⟨⟨-, -, -, -, -, -, hcode, -, hy, hlen, hl⟩, hin, hse⟩ := cw
  obtain ⟨hx, hb, hml, ho, -⟩ := S
  obtain ⟨-, ⟨cellB, hcB, hoB, hclB⟩, hPc⟩ := hp
  intro T hT X
  rcases vx_callV X hx (C := C) (bytes := bytes) (maxL := maxL) (ret := ret) ho hl hin hse hcode hy hK (by rw [hT]; exact hcB) hoB hclB hg (hsize.trans hml.symm) (argsL := As) (rest := rest) (fun sig h => hn.trans (hlen sig h)) hstack hW (by rw [hb]; exact hdg)
    (fun vm₁ hW₁ => ⟨hf.1, hf.2, hPc (T.setVm vm₁) hT hW₁⟩) with ⟨v, vm₁, ⟨U', l2, c2, s2⟩, hW₁, X', ⟨g', mk, t, L, e1, e2, hq, h1, hL, h2, h3⟩, st⟩ | ⟨q, vm₁, ⟨U', l2, c2, s2⟩, hW₁, X', ⟨g', mk, t, L, E, ce, e1, e2, hq, hce, hcv, hcl, h1, hL, h2, h3⟩, st⟩
  · dsimp only [Pt.U, Pt.locs, Pt.cells, Pt.slots] at X' e1 e2 h1 h2 h3 st
    subst h1; subst h2; subst h3
    exact Or.inl ⟨v, (T.setVm vm₁).calling g' mk (Value.ref b :: As).toArray, t, U', L, hT, X', hL, e1, e2, hq, st⟩
  · dsimp only [Pt.U, Pt.locs, Pt.cells, Pt.slots] at X' e1 e2 h1 h2 h3 st hcl
    subst h1; subst h2; subst h3
    exact Or.inr ⟨q, (T.setVm vm₁).calling g' mk (Value.ref b :: As).toArray, t, U', L, E, ce, hT, X', hL, e1, e2, hq, hce, hcv, vx_cls hW₁ hcl, st⟩
theorem vx_runS (S : CallFix p m c cc nL s args Ts own) (hM : vx_Met l y ws rm Pc Qc XC mc ms free) (cw : CallB R s args own index y bytes maxL ret ws rm mc ms n ∧ (Cond.static y).before args s = true) (hp : PreS s H Pc As)
    (hg : g.method = m) (hn : As.length = n) (hsize : g.locals.size = nL) (hstack : g.stack = As.reverse ++ rest) (hW : 2 * g.monitorRoom + (rest.map fun v => v.category).sum ≤ 8) (hdg : decode cc g.pc = .ok (.invokestatic index, 3)) (hf : cells + mc ≤ R.cells ∧ slots + ms ≤ R.slots) :
    vx_Run p l e R s m args below meth c H locs cells slots mc ms g rest (Qc As.toArray) XC free := by
  have hK : vx_Back l R p e below s args y 3 8 (PreOf R mc ms Pc) (PostOf Qc mc ms free) (vx_Post XC mc ms free) := vx_callBack cw.1 hM hp.1
  obtain ⟨⟨-, -, -, -, -, -, hcode, hini, hy, hlen, hl⟩, hstt⟩ := cw
  obtain ⟨hx, hb, hml, ho, -⟩ := S
  intro T hT X
  rcases vx_callS X hx (bytes := bytes) (maxL := maxL) (ret := ret) ho hl hstt hini hcode hy hK hg (hsize.trans hml.symm) (argsL := As) (rest := rest) (fun sig h => hn.trans (hlen sig h)) hstack hW (by rw [hb]; exact hdg)
    (fun vm₁ hW₁ => ⟨hf.1, hf.2, hp.2 (T.setVm vm₁) hT hW₁⟩) with ⟨v, vm₁, ⟨U', l2, c2, s2⟩, hW₁, X', ⟨g', mk, t, L, e1, e2, hq, h1, hL, h2, h3⟩, st⟩ | ⟨q, vm₁, ⟨U', l2, c2, s2⟩, hW₁, X', ⟨g', mk, t, L, E, ce, e1, e2, hq, hce, hcv, hcl, h1, hL, h2, h3⟩, st⟩
  · dsimp only [Pt.U, Pt.locs, Pt.cells, Pt.slots] at X' e1 e2 h1 h2 h3 st
    subst h1; subst h2; subst h3
    exact Or.inl ⟨v, (T.setVm vm₁).calling g' mk As.toArray, t, U', L, hT, X', hL, e1, e2, hq, st⟩
  · dsimp only [Pt.U, Pt.locs, Pt.cells, Pt.slots] at X' e1 e2 h1 h2 h3 st hcl
    subst h1; subst h2; subst h3
    exact Or.inr ⟨q, (T.setVm vm₁).calling g' mk As.toArray, t, U', L, E, ce, hT, X', hL, e1, e2, hq, hce, hcv, vx_cls hW₁ hcl, st⟩
end Runs
section Rows
variable {p : Program} {l : Launch} {e : Env} {R : Room} {s : State} {m : MethodId} {args : Array Value} {below : List Frame} {meth : Method} {c : Code} {H : Heap} {locs : List Loc} {cells slots : Nat} {Q : State → Prop}
variable {mc ms : Nat} {free : Addr → Prop} {A0 A1 : Nat → Prop} {H0 : Heap} {a : Array Value} {pc : Nat} {ls : Array Slot} {st0 rest : List Value}
theorem vx_keep {st₀ t T' : State} {L : List Loc} (h0 : st₀.heap = H) (e1 : T'.heap = t.heap) (hS : va_S A0 H0 H locs) (hA : ∀ q, q < H.size → A1 q → A0 q) (hf : ∀ q, free q → A0 q) (hL : ∀ q ∈ L, free q.base) (hF : va_F A1 st₀ t) :
    H.size ≤ T'.heap.size ∧ (∀ q : Nat, q < H.size → ¬ A1 q → T'.heap[q]? = H[q]?) ∧ va_S A0 H0 T'.heap (locs ++ L) := by
  obtain ⟨hz, hk⟩ := hF
  rw [h0] at hz hk
  exact ⟨by rw [e1]; exact hz, fun q h1 h2 => by rw [e1]; exact hk q h1 h2,
    ⟨Nat.le_trans hS.1 (by rw [e1]; exact hz), fun q h1 h2 => by rw [e1, hk q (Nat.lt_of_lt_of_le h1 hS.1) (fun z => h2 (hA q (Nat.lt_of_lt_of_le h1 hS.1) z))]; exact hS.2.1 q h1 h2, fun q hq => by
      rcases List.mem_append.mp hq with h | h
      · exact hS.2.2 q h
      · exact hf _ (hL q h)⟩⟩
theorem vx_calli {S SX : Type} {post : Int32 → S → Prop} {px : SX → Prop} {B : S → State → Prop} {BX : String → SX → State → Prop} {AX : Nat → Prop} (hr : vx_Run p l e R s m args below meth c H locs cells slots mc ms (F0 m pc ls st0) rest (va_Qi post B A1 a) (vx_X px BX AX) free) (hS : va_S A0 H0 H locs) (hA : ∀ q, q < H.size → A1 q → A0 q) (hf : ∀ q, free q → A0 q) (hAX : ∀ q, q < H.size → AX q → A0 q)
    (kx : ∀ (E : String) (ce : Cell) (q9 : Addr) (u : SX) (t : State) (H1 : Heap) (locs1 : List Loc), t.heap = H1 → s.vm.Alike t.vm → px u → BX E u t → H.size ≤ H1.size → (∀ q : Nat, q < H.size → ¬ AX q → H1[q]? = H[q]?) → va_S A0 H0 H1 locs1 → H1[q9]? = some ce → ce.vm = .none → s.vm.findClass E = some ce.cls → vx_W p l e R s m args below meth c H1 locs1 (cells + mc) (slots + ms) Q (F0 m pc ls rest) q9)
    (kk : ∀ (r : Int32) (u : S) (t : State) (H1 : Heap) (locs1 : List Loc), t.heap = H1 → s.vm.Alike t.vm → post r u → B u t → H.size ≤ H1.size → (∀ q : Nat, q < H.size → ¬ A1 q → H1[q]? = H[q]?) → va_S A0 H0 H1 locs1 → W p l e R s m args below meth c H1 locs1 (cells + mc) (slots + ms) Q (F0 m (pc + 3) ls (.int r :: rest))) : W p l e R s m args below meth c H locs cells slots Q (F0 m pc ls st0) := by
  intro T hT X
  rcases hr T hT X with ⟨v, st₀, t, T', L, h0, X', hL, e1, e2, ⟨⟨r, u, hv, hp, hb⟩, hF⟩, st⟩ | ⟨q, st₀, t, T', L, E, ce, h0, X', hL, e1, e2, ⟨u, hp, hb, hF⟩, hce, hcv, hcl, st⟩
  · cases hv
    obtain ⟨k1, k2, k3⟩ := vx_keep h0 e1 hS hA hf hL hF
    obtain ⟨t2, a1, b1⟩ := kk r u t T'.heap (locs ++ L) e1.symm (by rw [← e2]; exact X'.warmed.alike) hp hb k1 k2 k3 T' rfl X'
    exact ⟨t2, st t2 a1, b1⟩
  · obtain ⟨k1, k2, k3⟩ := vx_keep h0 e1 hS hAX hf hL hF
    obtain ⟨t2, a1, b1⟩ := kx E ce q u t T'.heap (locs ++ L) e1.symm (by rw [← e2]; exact X'.warmed.alike) hp hb k1 k2 k3 (by rw [e1]; exact hce) hcv hcl T' rfl X'
    exact ⟨t2, st.trans a1, b1⟩
theorem vx_calll {S SX : Type} {post : Int64 → S → Prop} {px : SX → Prop} {B : S → State → Prop} {BX : String → SX → State → Prop} {AX : Nat → Prop} (hr : vx_Run p l e R s m args below meth c H locs cells slots mc ms (F0 m pc ls st0) rest (va_Ql post B A1 a) (vx_X px BX AX) free) (hS : va_S A0 H0 H locs) (hA : ∀ q, q < H.size → A1 q → A0 q) (hf : ∀ q, free q → A0 q) (hAX : ∀ q, q < H.size → AX q → A0 q)
    (kx : ∀ (E : String) (ce : Cell) (q9 : Addr) (u : SX) (t : State) (H1 : Heap) (locs1 : List Loc), t.heap = H1 → s.vm.Alike t.vm → px u → BX E u t → H.size ≤ H1.size → (∀ q : Nat, q < H.size → ¬ AX q → H1[q]? = H[q]?) → va_S A0 H0 H1 locs1 → H1[q9]? = some ce → ce.vm = .none → s.vm.findClass E = some ce.cls → vx_W p l e R s m args below meth c H1 locs1 (cells + mc) (slots + ms) Q (F0 m pc ls rest) q9)
    (kk : ∀ (r : Int64) (u : S) (t : State) (H1 : Heap) (locs1 : List Loc), t.heap = H1 → s.vm.Alike t.vm → post r u → B u t → H.size ≤ H1.size → (∀ q : Nat, q < H.size → ¬ A1 q → H1[q]? = H[q]?) → va_S A0 H0 H1 locs1 → W p l e R s m args below meth c H1 locs1 (cells + mc) (slots + ms) Q (F0 m (pc + 3) ls (.long r :: rest))) : W p l e R s m args below meth c H locs cells slots Q (F0 m pc ls st0) := by
  intro T hT X
  rcases hr T hT X with ⟨v, st₀, t, T', L, h0, X', hL, e1, e2, ⟨⟨r, u, hv, hp, hb⟩, hF⟩, st⟩ | ⟨q, st₀, t, T', L, E, ce, h0, X', hL, e1, e2, ⟨u, hp, hb, hF⟩, hce, hcv, hcl, st⟩
  · cases hv
    obtain ⟨k1, k2, k3⟩ := vx_keep h0 e1 hS hA hf hL hF
    obtain ⟨t2, a1, b1⟩ := kk r u t T'.heap (locs ++ L) e1.symm (by rw [← e2]; exact X'.warmed.alike) hp hb k1 k2 k3 T' rfl X'
    exact ⟨t2, st t2 a1, b1⟩
  · obtain ⟨k1, k2, k3⟩ := vx_keep h0 e1 hS hAX hf hL hF
    obtain ⟨t2, a1, b1⟩ := kx E ce q u t T'.heap (locs ++ L) e1.symm (by rw [← e2]; exact X'.warmed.alike) hp hb k1 k2 k3 (by rw [e1]; exact hce) hcv hcl T' rfl X'
    exact ⟨t2, st.trans a1, b1⟩
theorem vx_callf {S SX : Type} {post : UInt32 → S → Prop} {px : SX → Prop} {B : S → State → Prop} {BX : String → SX → State → Prop} {AX : Nat → Prop} (hr : vx_Run p l e R s m args below meth c H locs cells slots mc ms (F0 m pc ls st0) rest (va_Qf post B A1 a) (vx_X px BX AX) free) (hS : va_S A0 H0 H locs) (hA : ∀ q, q < H.size → A1 q → A0 q) (hf : ∀ q, free q → A0 q) (hAX : ∀ q, q < H.size → AX q → A0 q)
    (kx : ∀ (E : String) (ce : Cell) (q9 : Addr) (u : SX) (t : State) (H1 : Heap) (locs1 : List Loc), t.heap = H1 → s.vm.Alike t.vm → px u → BX E u t → H.size ≤ H1.size → (∀ q : Nat, q < H.size → ¬ AX q → H1[q]? = H[q]?) → va_S A0 H0 H1 locs1 → H1[q9]? = some ce → ce.vm = .none → s.vm.findClass E = some ce.cls → vx_W p l e R s m args below meth c H1 locs1 (cells + mc) (slots + ms) Q (F0 m pc ls rest) q9)
    (kk : ∀ (r : UInt32) (u : S) (t : State) (H1 : Heap) (locs1 : List Loc), t.heap = H1 → s.vm.Alike t.vm → post r u → B u t → H.size ≤ H1.size → (∀ q : Nat, q < H.size → ¬ A1 q → H1[q]? = H[q]?) → va_S A0 H0 H1 locs1 → W p l e R s m args below meth c H1 locs1 (cells + mc) (slots + ms) Q (F0 m (pc + 3) ls (.float r :: rest))) : W p l e R s m args below meth c H locs cells slots Q (F0 m pc ls st0) := by
  intro T hT X
  rcases hr T hT X with ⟨v, st₀, t, T', L, h0, X', hL, e1, e2, ⟨⟨r, u, hv, hp, hb⟩, hF⟩, st⟩ | ⟨q, st₀, t, T', L, E, ce, h0, X', hL, e1, e2, ⟨u, hp, hb, hF⟩, hce, hcv, hcl, st⟩
  · cases hv
    obtain ⟨k1, k2, k3⟩ := vx_keep h0 e1 hS hA hf hL hF
    obtain ⟨t2, a1, b1⟩ := kk r u t T'.heap (locs ++ L) e1.symm (by rw [← e2]; exact X'.warmed.alike) hp hb k1 k2 k3 T' rfl X'
    exact ⟨t2, st t2 a1, b1⟩
  · obtain ⟨k1, k2, k3⟩ := vx_keep h0 e1 hS hAX hf hL hF
    obtain ⟨t2, a1, b1⟩ := kx E ce q u t T'.heap (locs ++ L) e1.symm (by rw [← e2]; exact X'.warmed.alike) hp hb k1 k2 k3 (by rw [e1]; exact hce) hcv hcl T' rfl X'
    exact ⟨t2, st.trans a1, b1⟩
theorem vx_calld {S SX : Type} {post : UInt64 → S → Prop} {px : SX → Prop} {B : S → State → Prop} {BX : String → SX → State → Prop} {AX : Nat → Prop} (hr : vx_Run p l e R s m args below meth c H locs cells slots mc ms (F0 m pc ls st0) rest (va_Qd post B A1 a) (vx_X px BX AX) free) (hS : va_S A0 H0 H locs) (hA : ∀ q, q < H.size → A1 q → A0 q) (hf : ∀ q, free q → A0 q) (hAX : ∀ q, q < H.size → AX q → A0 q)
    (kx : ∀ (E : String) (ce : Cell) (q9 : Addr) (u : SX) (t : State) (H1 : Heap) (locs1 : List Loc), t.heap = H1 → s.vm.Alike t.vm → px u → BX E u t → H.size ≤ H1.size → (∀ q : Nat, q < H.size → ¬ AX q → H1[q]? = H[q]?) → va_S A0 H0 H1 locs1 → H1[q9]? = some ce → ce.vm = .none → s.vm.findClass E = some ce.cls → vx_W p l e R s m args below meth c H1 locs1 (cells + mc) (slots + ms) Q (F0 m pc ls rest) q9)
    (kk : ∀ (r : UInt64) (u : S) (t : State) (H1 : Heap) (locs1 : List Loc), t.heap = H1 → s.vm.Alike t.vm → post r u → B u t → H.size ≤ H1.size → (∀ q : Nat, q < H.size → ¬ A1 q → H1[q]? = H[q]?) → va_S A0 H0 H1 locs1 → W p l e R s m args below meth c H1 locs1 (cells + mc) (slots + ms) Q (F0 m (pc + 3) ls (.double r :: rest))) : W p l e R s m args below meth c H locs cells slots Q (F0 m pc ls st0) := by
  intro T hT X
  rcases hr T hT X with ⟨v, st₀, t, T', L, h0, X', hL, e1, e2, ⟨⟨r, u, hv, hp, hb⟩, hF⟩, st⟩ | ⟨q, st₀, t, T', L, E, ce, h0, X', hL, e1, e2, ⟨u, hp, hb, hF⟩, hce, hcv, hcl, st⟩
  · cases hv
    obtain ⟨k1, k2, k3⟩ := vx_keep h0 e1 hS hA hf hL hF
    obtain ⟨t2, a1, b1⟩ := kk r u t T'.heap (locs ++ L) e1.symm (by rw [← e2]; exact X'.warmed.alike) hp hb k1 k2 k3 T' rfl X'
    exact ⟨t2, st t2 a1, b1⟩
  · obtain ⟨k1, k2, k3⟩ := vx_keep h0 e1 hS hAX hf hL hF
    obtain ⟨t2, a1, b1⟩ := kx E ce q u t T'.heap (locs ++ L) e1.symm (by rw [← e2]; exact X'.warmed.alike) hp hb k1 k2 k3 (by rw [e1]; exact hce) hcv hcl T' rfl X'
    exact ⟨t2, st.trans a1, b1⟩
theorem vx_callv {S SX : Type} {post : S → Prop} {px : SX → Prop} {B : S → State → Prop} {BX : String → SX → State → Prop} {AX : Nat → Prop} (hr : vx_Run p l e R s m args below meth c H locs cells slots mc ms (F0 m pc ls st0) rest (va_Qv post B A1 a) (vx_X px BX AX) free) (hS : va_S A0 H0 H locs) (hA : ∀ q, q < H.size → A1 q → A0 q) (hf : ∀ q, free q → A0 q) (hAX : ∀ q, q < H.size → AX q → A0 q)
    (kx : ∀ (E : String) (ce : Cell) (q9 : Addr) (u : SX) (t : State) (H1 : Heap) (locs1 : List Loc), t.heap = H1 → s.vm.Alike t.vm → px u → BX E u t → H.size ≤ H1.size → (∀ q : Nat, q < H.size → ¬ AX q → H1[q]? = H[q]?) → va_S A0 H0 H1 locs1 → H1[q9]? = some ce → ce.vm = .none → s.vm.findClass E = some ce.cls → vx_W p l e R s m args below meth c H1 locs1 (cells + mc) (slots + ms) Q (F0 m pc ls rest) q9)
    (kk : ∀ (u : S) (t : State) (H1 : Heap) (locs1 : List Loc), t.heap = H1 → s.vm.Alike t.vm → post u → B u t → H.size ≤ H1.size → (∀ q : Nat, q < H.size → ¬ A1 q → H1[q]? = H[q]?) → va_S A0 H0 H1 locs1 → W p l e R s m args below meth c H1 locs1 (cells + mc) (slots + ms) Q (F0 m (pc + 3) ls (rest))) : W p l e R s m args below meth c H locs cells slots Q (F0 m pc ls st0) := by
  intro T hT X
  rcases hr T hT X with ⟨v, st₀, t, T', L, h0, X', hL, e1, e2, ⟨⟨u, hv, hp, hb⟩, hF⟩, st⟩ | ⟨q, st₀, t, T', L, E, ce, h0, X', hL, e1, e2, ⟨u, hp, hb, hF⟩, hce, hcv, hcl, st⟩
  · cases hv
    obtain ⟨k1, k2, k3⟩ := vx_keep h0 e1 hS hA hf hL hF
    obtain ⟨t2, a1, b1⟩ := kk u t T'.heap (locs ++ L) e1.symm (by rw [← e2]; exact X'.warmed.alike) hp hb k1 k2 k3 T' rfl X'
    exact ⟨t2, st t2 a1, b1⟩
  · obtain ⟨k1, k2, k3⟩ := vx_keep h0 e1 hS hAX hf hL hF
    obtain ⟨t2, a1, b1⟩ := kx E ce q u t T'.heap (locs ++ L) e1.symm (by rw [← e2]; exact X'.warmed.alike) hp hb k1 k2 k3 (by rw [e1]; exact hce) hcv hcl T' rfl X'
    exact ⟨t2, st.trans a1, b1⟩
/-- caught by the row x of this method's table; the rows ahead don't take it -/
theorem vx_catch {own name : String} {E : String} {ce : Cell} {q : Addr} (hown : s.vm.findClass own = some m.cls) (pre : List ExceptionTableEntry) (x : ExceptionTableEntry) (suf : List ExceptionTableEntry) (hsplit : c.exceptionTable.toList = pre ++ x :: suf)
    (hpass : ∀ z ∈ pre, covers z pc = false ∨ (z.catchType ≠ 0 ∧ ∃ nm : String, (Cond.classLink own z.catchType nm).before args s = true ∧ va_Nc E nm s)) (hx : covers x pc = true) (h0 : x.catchType ≠ 0)
    (hlink : (Cond.classLink own x.catchType name).before args s = true) (hcast : (Cond.castable E name).before args s = true) (hcell : H[q]? = some ce) (hv : ce.vm = .none) (hcl : s.vm.findClass E = some ce.cls)
    (kk : W p l e R s m args below meth c H locs cells slots Q (F0 m x.handlerPc ls [.ref q])) : vx_W p l e R s m args below meth c H locs cells slots Q (F0 m pc ls rest) q := by
  intro T hT X
  have hpl : e.platform.magicAccessors = ({} : Platform).magicAccessors := by rw [X.admits.platform]
  obtain ⟨c3, c4, hc3, hc4, hasg⟩ := Cond.castable_spec hcast
  cases Option.some.inj (hc3.symm.trans hcl)
  obtain ⟨c5, hc5, hcl5⟩ := Cond.classLink_spec hown hlink e.platform hpl
  cases Option.some.inj (hc4.symm.trans hc5)
  obtain ⟨vm', X', st⟩ := X.thenCaughtThrough q (g := F0 m pc ls rest) rfl (Steps.refl _) (by rw [hT]; exact hcell) (by rw [hv]; rfl) (by obtain ⟨k9, h9, -⟩ := Vm.findClass_spec hcl; exact ⟨k9, h9⟩) pre x suf hsplit
    (fun z hz => by
      rcases hpass z hz with h | ⟨hz0, nm, hl1, hn1⟩
      · exact Or.inl h
      · obtain ⟨c6, hc6, hcl6⟩ := Cond.classLink_spec hown hl1 e.platform hpl
        obtain ⟨a8, b8, h1, h2, h3⟩ := hn1
        cases Option.some.inj (h1.symm.trans hcl)
        cases Option.some.inj (h2.symm.trans hc6)
        exact Or.inr ⟨hz0, _, hcl6, h3⟩) hx (Or.inr ⟨h0, c4, hcl5, hasg⟩)
  obtain ⟨t, a1, b1⟩ := kk (T.setVm vm') hT X'
  exact ⟨t, st.trans a1, b1⟩
end Rows
section Ends
variable {p : Program} {l : Launch} {e : Env} {R : Room} {s : State} {m : MethodId} {args : Array Value} {below : List Frame} {meth : Method} {c : Code} {H : Heap} {locs : List Loc} {cells slots : Nat} {Q : State → Prop}
variable {mc ms : Nat} {free : Addr → Prop} {A0 A1 : Nat → Prop} {H0 : Heap} {a : Array Value} {ls : Array Slot} {st0 rest : List Value}
variable {Qc : Array Value → State → Outcome → State → Prop} {XC : String → State → State → Prop}
/-- what a body that may throw owes at its end -/
def vx_MQ (below : List Frame) (Qc : Array Value → State → Outcome → State → Prop) (XC : String → State → State → Prop) (a : Array Value) (s : State) (mc ms : Nat) (free : Addr → Prop) : State → Prop := fun t =>
  ∃ o, t.status = .running ∧ Ended t below o ∧ vx_Q Qc XC mc ms free a s o t
theorem vx_ret {g : JFrame} {mc ms : Nat} (k : W p l e R s m args below meth c H locs cells slots (MQ below Qc args s mc ms free) g) : W p l e R s m args below meth c H locs cells slots (vx_MQ below Qc XC args s mc ms free) g := by
  intro T hT X
  obtain ⟨t, a1, o, b1, b2, b3, b4⟩ := k T hT X
  exact ⟨t, a1, o, b1, b2, Or.inl ⟨b3, b4⟩⟩
/-- not caught here: it goes on to the caller -/
theorem vx_widen {g : JFrame} {q : Addr} {k n : Nat} (h1 : cells ≤ k) (h2 : slots ≤ n) (kk : vx_W p l e R s m args below meth c H locs k n Q g q) : vx_W p l e R s m args below meth c H locs cells slots Q g q := fun T hT X => kk T hT (stand_widen X h1 h2)
theorem vx_out {pc : Nat} {E : String} {ce : Cell} {q : Addr} {mc ms : Nat} (hout : ∀ x ∈ c.exceptionTable.toList, covers x pc = false) (hlocks : meth.locks = false) (hcell : H[q]? = some ce) (hv : ce.vm = .none) (hcl : s.vm.findClass E = some ce.cls)
    (hx : ∀ t : State, t.heap = H → s.vm.Alike t.vm → XC E s t) (hf : ∀ z ∈ locs, free z.base) (hc : cells ≤ mc) (hs : slots ≤ ms) :
    vx_W p l e R s m args below meth c H locs cells slots (vx_MQ below Qc XC args s mc ms free) (F0 m pc ls rest) q := by
  intro T hT X
  obtain ⟨st1, hrun, hend, hW, hsm⟩ := X.leaveThrown q (g := F0 m pc ls rest) rfl rfl rfl hout hlocks
  have hcell9 : (T.setFrames (.throwing q :: below)).heap[q]? = some ce := by
    show T.heap[q]? = some ce
    rw [hT]; exact hcell
  exact ⟨_, st1, .threw q, hrun, hend, Or.inr ⟨q, rfl, E, ce, locs, hx _ hT hW.alike, hcell9, hv, hcl, hW, hsm.mono hc hs, hf⟩⟩
theorem vx_frame {U : State} {k n : Nat} (h : s.sameButNew ({ U with vm := s.vm } : State) locs k n) : s.heap.size ≤ U.heap.size ∧ ∀ q : Nat, q < s.heap.size → (∀ z ∈ locs, z.base ≠ q) → U.heap[q]? = s.heap[q]? := by
  obtain ⟨-, h2, -, -, -, h6⟩ := h
  refine ⟨h2, fun q hq hz => ?_⟩
  obtain ⟨c9, e1, e2, e3, e4⟩ := h6 q _ (Array.getElem?_eq_getElem hq)
  have hs : c9.slots = (s.heap[q]).slots := Array.ext_getElem? fun i => e4 i fun hm => hz _ hm rfl
  have h9 : c9 = s.heap[q] := by
    rw [hs] at e2
    exact e2
  have e5 : U.heap[q]? = some c9 := e1
  rw [e5, h9, Array.getElem?_eq_getElem hq]
/-- the words of a throw but the four that speak of the heap -/
def vx_no (w : Cond) : Bool := decide (w ≠ .isRef (.static Bundle.tN "UNASSIGNED_STACK" Bundle.steD)) && decide (w ≠ .isRef (.static Bundle.tN "SUPPRESSED_SENTINEL" Bundle.listD)) && decide (w ≠ .laysStatic Bundle.tN "UNASSIGNED_STACK" Bundle.steD) && decide (w ≠ .laysStatic Bundle.tN "SUPPRESSED_SENTINEL" Bundle.listD)
def vx_at0 (own : String) (ic : Nat) (X : String) (names : List String) : List Cond := (Bundle.ownAtoms0 own ic X names).filter vx_no
def vx_atS (own : String) (ic : Nat) (X : String) (names : List String) : List Cond := (Bundle.ownAtoms own ic X names).filter vx_no
/-- a word that the tables alone decide, or a good one -/
def vx_ot (w : Cond) : Bool := w.onTables || goodWord w
theorem vx_ot_at {args a' : Array Value} {s U : State} {w : Cond} (hW : s.WarmedH U.vm) (hvm : s.vm = U.vm) (hg : vx_ot w = true) (h : w.before args s = true) : w.before a' U = true := by
  simp only [vx_ot, Bool.or_eq_true] at hg
  rcases hg with hg | hg
  · exact va_tabs hg hvm h
  · exact word_at hW (good_of_word hg) h
/-- a list's words: the good ones out of the method's own list, the others by premises of their own -/
theorem vx_hat {args : Array Value} {s : State} {L B : List Cond} (h1 : ∀ w ∈ L.filter goodWord, w.before args s = true) (h2 : ∀ w ∈ L.filter (fun w => !goodWord w), w ∈ B) (h3 : ∀ w ∈ B, w.before args s = true) : ∀ w ∈ L, w.before args s = true := by
  intro w hw
  by_cases g : goodWord w = true
  · exact h1 w (List.mem_filter.mpr ⟨hw, g⟩)
  · refine h3 w (h2 w (List.mem_filter.mpr ⟨hw, ?_⟩))
    show (!goodWord w) = true
    cases hgw : goodWord w
    · rfl
    · exact absurd hgw g
theorem vx_c {args : Array Value} {s : State} {w : Cond} {B : List Cond} (h : w.before args s = true) (t : ∀ w ∈ B, w.before args s = true) : ∀ w' ∈ w :: B, w'.before args s = true := fun w' h' => (List.mem_cons.mp h').elim (fun e => by rw [e]; exact h) (t w')
theorem vx_n {args : Array Value} {s : State} : ∀ w ∈ ([] : List Cond), w.before args s = true := fun _ h => nomatch h
theorem vx_own {args : Array Value} {s : State} {L : List Cond} (h1 : ∀ w ∈ L.filter vx_no, w.before args s = true)
    (hU : (Cond.isRef (.static Bundle.tN "UNASSIGNED_STACK" Bundle.steD)).before args s = true) (hN : (Cond.isRef (.static Bundle.tN "SUPPRESSED_SENTINEL" Bundle.listD)).before args s = true)
    (lU : (Cond.laysStatic Bundle.tN "UNASSIGNED_STACK" Bundle.steD).before args s = true) (lN : (Cond.laysStatic Bundle.tN "SUPPRESSED_SENTINEL" Bundle.listD).before args s = true) : ∀ w ∈ L, w.before args s = true := by
  intro w hw
  by_cases e1 : w = .isRef (.static Bundle.tN "UNASSIGNED_STACK" Bundle.steD)
  · rw [e1]; exact hU
  · by_cases e2 : w = .isRef (.static Bundle.tN "SUPPRESSED_SENTINEL" Bundle.listD)
    · rw [e2]; exact hN
    · by_cases e3 : w = .laysStatic Bundle.tN "UNASSIGNED_STACK" Bundle.steD
      · rw [e3]; exact lU
      · by_cases e4 : w = .laysStatic Bundle.tN "SUPPRESSED_SENTINEL" Bundle.listD
        · rw [e4]; exact lN
        · exact h1 w (List.mem_filter.mpr ⟨hw, by unfold vx_no; rw [decide_eq_true e1, decide_eq_true e2, decide_eq_true e3, decide_eq_true e4]; rfl⟩)
/-- where a static field lies, its class's statics cell in H -/
def vx_L (C n d : String) (A : Nat → Prop) (U : State) (H : Heap) : Prop := ∃ (c : ClassId) (k : Class) (i : Nat) (f : Field) (a : Nat) (cell : Cell), U.vm.findClass C = some c ∧ U.fieldFound? C n d = some (c, k, i, f) ∧ f.isStatic = true ∧ k.statics = some a ∧ H[a]? = some cell ∧ cell.vm.isStatics = true ∧ cell.cls = c ∧ f.slot < cell.slots.size ∧ k.staticTypes[f.slot]? = some f.type ∧ ¬ A a
theorem vx_L.moved {C n d : String} {A : Nat → Prop} {u U : State} {H : Heap} (hvm : u.vm.Alike U.vm) (h : vx_L C n d A u H) : vx_L C n d A U H := by
  obtain ⟨c, k, i, f, a, cell, h1, h2, h3, h4, h5, h6, h7, h8, h9, h10⟩ := h
  obtain ⟨k', hi', he⟩ := State.fieldFound?_setVm hvm h2
  exact ⟨c, k', i, f, a, cell, by rw [hvm.findClass]; exact h1, hi', h3, by rw [he]; exact h4, h5, h6, h7, h8, by rw [he]; exact h9, h10⟩
theorem vx_L.kept {C n d : String} {A : Nat → Prop} {U : State} {H H1 : Heap} (h : vx_L C n d A U H) (hq : ∀ a : Nat, a < H.size → ¬ A a → H1[a]? = H[a]?) : vx_L C n d A U H1 := by
  obtain ⟨c, k, i, f, a, cell, h1, h2, h3, h4, h5, h6, h7, h8, h9, h10⟩ := h
  exact ⟨c, k, i, f, a, cell, h1, h2, h3, h4, by rw [hq a (Array.getElem?_eq_some_iff.mp h5).1 h10]; exact h5, h6, h7, h8, h9, h10⟩
theorem vx_L.narrow {C n d : String} {A B : Nat → Prop} {U : State} {H : Heap} (h : vx_L C n d A U H) (hAB : ∀ q, B q → A q) : vx_L C n d B U H := by
  obtain ⟨c, k, i, f, a, cell, h1, h2, h3, h4, h5, h6, h7, h8, h9, h10⟩ := h
  exact ⟨c, k, i, f, a, cell, h1, h2, h3, h4, h5, h6, h7, h8, h9, fun z => h10 (hAB _ z)⟩
theorem vx_L.word {C n d : String} {A : Nat → Prop} {s : State} {args : Array Value} (h : vx_L C n d A s s.heap) : (Cond.laysStatic C n d).before args s = true := by
  obtain ⟨c, k, i, f, a, cell, h1, h2, h3, h4, h5, h6, h7, h8, h9, -⟩ := h
  show (Cond.laysStatic C n d).holds args s none s [] = true
  exact Cond.laysStatic_of h1 h2 h3 h4 h5 h6 h7 h8 h9
/-- .. and what it holds: null or some reference -/
def vx_Zq (C n d : String) (A : Nat → Prop) (U : State) (H : Heap) : Prop := va_Zq C n d A U H ∧ vx_L C n d A U H
theorem vx_Zq.moved {C n d : String} {A : Nat → Prop} {u U : State} {H : Heap} (hvm : u.vm.Alike U.vm) (h : vx_Zq C n d A u H) : vx_Zq C n d A U H := ⟨va_Zq.moved hvm h.1, vx_L.moved hvm h.2⟩
theorem vx_Zq.kept {C n d : String} {A : Nat → Prop} {U : State} {H H1 : Heap} (h : vx_Zq C n d A U H) (hq : ∀ a : Nat, a < H.size → ¬ A a → H1[a]? = H[a]?) : vx_Zq C n d A U H1 := ⟨va_Zq.kept h.1 hq, vx_L.kept h.2 hq⟩
theorem vx_Zq.narrow {C n d : String} {A B : Nat → Prop} {U : State} {H : Heap} (h : vx_Zq C n d A U H) (hAB : ∀ q, B q → A q) : vx_Zq C n d B U H := ⟨va_Zq.narrow h.1 hAB, vx_L.narrow h.2 hAB⟩
theorem vx_Zqof {args : Array Value} {s : State} {C n d : String} {A : Nat → Prop} (hl : (Cond.laysStatic C n d).before args s = true) (hini : (Cond.initialized C).before args s = true) (h : (Cond.isRef (.static C n d)).before args s = true) (hA : ∀ a : Nat, a < s.heap.size → ¬ A a) : vx_Zq C n d A s s.heap := by
  refine ⟨va_Zqof hl hini h hA, ?_⟩
  obtain ⟨c, k, i, f, a, cell, h1, h2, h3, h4, h5, h6, h7, h8, h9⟩ := Cond.laysStatic_spec hl
  exact ⟨c, k, i, f, a, cell, h1, h2, h3, h4, h5, h6, h7, h8, h9, hA a (Array.getElem?_eq_some_iff.mp h5).1⟩
theorem vx_isRef {C n d : String} {v : Value} {A : Nat → Prop} {s : State} {args : Array Value} (h : va_Z C n d v A s s.heap) (hv : v.isRef = true) : (Cond.isRef (.static C n d)).before args s = true := by
  obtain ⟨cf, kf, fi, f, a, cell, h1, h2, h3, h4, h5, h6, h7, -⟩ := h
  have he : (Term.static C n d).eval args s none [] s = some v := by
    simp [Term.eval, State.fieldNamed?, h1, h2, h4, h5, h6, h7]
  simp only [Cond.before, Cond.holds, Cond.value, he]
  cases v <;> simp_all [Value.isRef]
theorem vx_isRefq {C n d : String} {A : Nat → Prop} {s : State} {args : Array Value} (h : va_Zq C n d A s s.heap) : (Cond.isRef (.static C n d)).before args s = true := by
  rcases h with h | ⟨t, h⟩
  · exact vx_isRef h rfl
  · exact vx_isRef h rfl
/-- the same frame, seen from here: as if the method were called anew in this heap -/
theorem vx_rebase {T : State} (X : Stand p l e R s m args below meth c T locs cells slots) {R' : Room} (hf : R'.frames ≤ R.frames) (hl : R'.locals ≤ R.locals) (hc : cells + R'.cells ≤ R.cells) (hs : slots + R'.slots ≤ R.slots) :
    Stand p l e R' ((T.setVm s.vm).setFrames (.invoking m args :: below)) m args below meth c T [] 0 0 := by
  have htop : (T.setVm s.vm).topJava?.isSome := X.here.top
  have hF : ((T.setVm s.vm).setFrames (.invoking m args :: below)).frames = .invoking m args :: below := State.frames_setFrames _ (State.cur_lt_of_top htop)
  obtain ⟨g₀, hg0⟩ := Option.isSome_iff_exists.mp htop
  obtain ⟨r, hr⟩ := State.topJava?_eq_some.mp hg0
  have hl9 : e.platform.stackLimits (T.setVm s.vm).me = e.platform.stackLimits s.me := X.limits
  have hb9 : (T.setVm s.vm).me.stackBytes = s.me.stackBytes := X.bytes
  refine ⟨X.admits, X.cas, X.clock, hF, ?_, X.hears, X.method, X.code, X.here, X.tail, X.warmed, ?_, ?_, ?_⟩
  · have h := X.room
    have hU : ((T.setVm s.vm).setFrames (.invoking m args :: below)).localsInUse = s.localsInUse := by
      rw [State.localsInUse_invoking hF (meth := meth) (c := c) X.method X.code, State.localsInUse_invoking X.frames X.method X.code]
    simp only [State.hasRoom, Bool.and_eq_true, decide_eq_true_eq] at h ⊢
    obtain ⟨⟨⟨⟨h1, h2, h3, h4, h5, h6⟩, h7⟩, h8⟩, h9⟩ := h
    rw [X.frames, List.length_cons] at h2 h3
    have q1 := X.heapSize
    have q2 := X.used
    simp only [hF, hU, List.length_cons, State.stackLimits_setFrames, State.stackBytes_setFrames, hl9, hb9]
    refine ⟨⟨⟨⟨by omega, by omega, by omega, by omega, by omega, h6⟩, ?_⟩, ?_⟩, X.book⟩
    · show T.heap.size + R'.cells ≤ e.platform.maxCells
      omega
    · show T.slotsUsed + R'.slots ≤ e.platform.maxSlots
      omega
  · rw [State.stackLimits_setFrames]; rfl
  · rw [State.stackBytes_setFrames]; rfl
  · refine ⟨?_, Nat.le_refl _, Nat.le_refl _, ?_, ?_, fun a c9 h9 => ⟨c9, h9, rfl, rfl, fun _ _ => rfl⟩⟩
    · obtain ⟨t, ht, -⟩ := State.frames_cons hr
      show T.setVm s.vm = { ((T.setVm s.vm).setFrames (.invoking m args :: below)).setFrames (T.setVm s.vm).frames with heap := T.heap, slotsUsed := T.slotsUsed }
      rw [State.setFrames_setFrames, State.setFrames_self ht]
      rfl
    · show T.slotsUsed = T.slotsUsed + ((T.heap.toList.drop T.heap.size).map (·.slots.size)).sum
      rw [List.drop_eq_nil_of_le (Nat.le_of_eq Array.length_toList)]
      rfl
    · show ((T.heap.toList.drop T.heap.size).map (·.slots.size)).sum ≤ 0
      rw [List.drop_eq_nil_of_le (Nat.le_of_eq Array.length_toList)]
      exact Nat.le_refl _
/-- 'throw new E()': new; dup; invokespecial; athrow -/
theorem vx_throw0 {cc : ByteArray} {pc : Nat} (hexec : p.tables.exec = Jvm.exec) (hb : c.code = cc) (hl : l.stackTraces = false) {own cls : String} {names : List String} {ik ic mc ms : Nat} {A : Nat → Prop}
    (hown : s.vm.findClass own = some m.cls) (hcls : Bundle.fit cls = true) (hnames : ∀ n ∈ names, Bundle.fit n = true)
    (hk : (Cond.classLink own ik cls).before args s = true) (hini : (Cond.initialized cls).before args s = true) (hat : ∀ w ∈ vx_at0 own ic cls names, w.before args s = true)
    (hgood : ∀ w ∈ Cond.classLink own ik cls :: Cond.initialized cls :: vx_at0 own ic cls names, vx_ot w = true)
    (hU : vx_Zq Bundle.tN "UNASSIGNED_STACK" Bundle.steD A s s.heap) (hN : vx_Zq Bundle.tN "SUPPRESSED_SENTINEL" Bundle.listD A s s.heap) (hS : va_S A s.heap H locs) (hsize : ls.size = c.maxLocals)
    (d0 : decode cc pc = .ok (.new ik, 3)) (d3 : decode cc (pc + 3) = .ok (.dup, 1)) (d4 : decode cc (pc + 4) = .ok (.invokespecial ic, 3)) (d7 : decode cc (pc + 7) = .ok (.athrow, 1))
    (hout : ∀ x ∈ c.exceptionTable.toList, covers x (pc + 7) = false)
    (hRframes : names.length + 3 < R.frames) (hRlocals : (rest.map fun v => v.category).sum + (13 * (names.length + 1) + 42) ≤ R.locals) (hRcells : cells + 1 ≤ R.cells) (hRslots : slots + 6 ≤ R.slots) (hlocks : meth.locks = false)
    (hx : ∀ t : State, s.vm.Alike t.vm → H.size ≤ t.heap.size → (∀ q : Nat, q < H.size → t.heap[q]? = H[q]?) → XC cls s t)
    (hf : ∀ z ∈ locs, free z.base) (hc : cells + 1 ≤ mc) (hs : slots + 6 ≤ ms) :
    W p l e R s m args below meth c H locs cells slots (vx_MQ below Qc XC args s mc ms free) (F0 m pc ls rest) := by
  intro T hT X
  have htr : e.platform.stackTraces = false := (show e.platform.stackTraces = l.stackTraces by rw [X.admits.platform]).trans hl
  have Y := vx_rebase X (R' := { frames := R.frames, locals := R.locals, cells := 1, slots := 6 }) (Nat.le_refl _) (Nat.le_refl _) hRcells hRslots
  obtain ⟨s', hA⟩ : ∃ z, z = (T.setVm s.vm).setFrames (.invoking m args :: below) := ⟨_, rfl⟩
  rw [← hA] at Y
  have hvm : s'.vm = s.vm := by rw [hA]; rfl
  have hhp : s'.heap = H := by rw [hA]; exact hT
  have hW0 : s.WarmedH s'.vm := by rw [hvm]; exact State.WarmedH.refl s
  have hat' : ∀ w ∈ vx_at0 own ic cls names, w.before args s' = true := fun w hw => vx_ot_at hW0 hvm.symm (hgood w (List.mem_cons_of_mem _ (List.mem_cons_of_mem _ hw))) (hat w hw)
  have hk' : (Cond.classLink own ik cls).before args s' = true := vx_ot_at hW0 hvm.symm (hgood _ List.mem_cons_self) hk
  have hini' : (Cond.initialized cls).before args s' = true := vx_ot_at hW0 hvm.symm (hgood _ (List.mem_cons_of_mem _ List.mem_cons_self)) hini
  have hU' : vx_Zq Bundle.tN "UNASSIGNED_STACK" Bundle.steD A s' s'.heap := by rw [hhp]; exact vx_Zq.moved hW0.alike (hU.kept hS.2.1)
  have hN' : vx_Zq Bundle.tN "SUPPRESSED_SENTINEL" Bundle.listD A s' s'.heap := by rw [hhp]; exact vx_Zq.moved hW0.alike (hN.kept hS.2.1)
  have h : ∀ w ∈ Bundle.ownAtoms0 own ic cls names, w.before args s' = true := vx_own hat' (vx_isRefq hU'.1) (vx_isRefq hN'.1) hU'.2.word hN'.2.word
  have hown' : s'.vm.findClass own = some m.cls := by rw [hvm]; exact hown
  have hins : (Cond.instantiable cls 6).before args s' = true := h _ (by simp [Bundle.ownAtoms0])
  obtain ⟨vm₁, cX, kX, hfX, hkX, -, -, X₁, st1⟩ := Y.newCold hexec (own := own) (C := cls) (index := ik) (n := 6) hown' hk' hins hini'
    (g := F0 m pc ls rest) rfl (by rw [hb]; exact d0) (Nat.le_refl _) (Nat.le_refl _)
  generalize hT1 : (T.setVm vm₁).pushCell { cls := cX, slots := kX.instanceTypes.map defaultValue, vm := .none } = T1 at X₁ st1
  have hcat : (Value.ref T.heap.size).category = 1 := rfl
  have hcellA : T1.heap[T.heap.size]? = some (freshCell cX kX) := by rw [← hT1]; exact State.heap_pushCell_size _ _
  have d3' : decode c.code (pc + 3) = .ok (.dup, 1) := by rw [hb]; exact d3
  obtain ⟨U, hsteps, hrun, hend, hW, hsame, ce, hce, hO⟩ := X₁.ctorThrow0 hexec htr (own := own) (cls := cls) (names := names) (ic := ic) hown' hcls hnames h (fun x hx => nomatch hx) hfX hkX hcellA (by rw [hhp, hT]; exact Nat.le_refl _)
    (g := { method := m, pc := pc + 4, locals := ls, stack := .ref T.heap.size :: .ref T.heap.size :: rest, locked := none }) rfl hsize rfl rfl (rest := rest) rfl
    (by rw [hb]; exact d4) (by rw [hb]; exact d7) hout hRframes (by simp only [List.map_cons, List.sum_cons, hcat]; omega) hlocks
  obtain ⟨f1, f2⟩ := vx_frame hsame
  rw [hhp] at f1 f2
  have hWs : s.WarmedH U.vm := State.WarmedH.trans hW0 hW
  have hcl : s.vm.findClass cls = some ce.cls := by
    have h9 := hO.cls
    rw [hvm] at h9
    exact h9
  have hall : s.sameButNew ({ U with vm := s.vm } : State) locs mc ms := by
    subst hA
    obtain ⟨e1, e2⟩ := hsame
    rw [State.setFrames_setFrames] at e1
    have h2 : (T.setVm s.vm).sameButNew ({ U with vm := s.vm } : State) [] (0 + 1) (0 + 6) := ⟨e1, e2⟩
    have h3 := X.same.trans h2
    rw [List.append_nil] at h3
    exact h3.mono hc hs
  refine ⟨U, ?_, .threw T.heap.size, hrun, hend, Or.inr ⟨T.heap.size, rfl, cls, ce, locs, hx U hWs.alike f1 (fun q hq => f2 q hq (fun z hz => nomatch hz)), hce, hO.vm, hcl, hWs, hall, hf⟩⟩
  refine st1 _ ?_
  show Steps p.tables e below (T1.setTop { method := m, pc := pc + 3, locals := ls, stack := .ref T.heap.size :: rest, locked := none }) _
  jvm_step X₁.here [X₁.here.top, hexec, d3', Value.category]
  exact hsteps
/-- 'throw new E("text")': new; dup; ldc; invokespecial; athrow -/
theorem vx_throwS {cc : ByteArray} {pc : Nat} (hexec : p.tables.exec = Jvm.exec) (hb : c.code = cc) (hl : l.stackTraces = false) {own cls text : String} {names : List String} {ik is ic mc ms sa : Nat} {A : Nat → Prop}
    (hown : s.vm.findClass own = some m.cls) (hcls : Bundle.fit cls = true) (hnames : ∀ n ∈ names, Bundle.fit n = true)
    (hk : (Cond.classLink own ik cls).before args s = true) (hini : (Cond.initialized cls).before args s = true) (hstr : vk_R own is text sa s) (hat : ∀ w ∈ vx_atS own ic cls names, w.before args s = true)
    (hgood : ∀ w ∈ Cond.classLink own ik cls :: Cond.initialized cls :: vx_atS own ic cls names, vx_ot w = true)
    (hU : vx_Zq Bundle.tN "UNASSIGNED_STACK" Bundle.steD A s s.heap) (hN : vx_Zq Bundle.tN "SUPPRESSED_SENTINEL" Bundle.listD A s s.heap) (hS : va_S A s.heap H locs) (hsize : ls.size = c.maxLocals)
    (d0 : decode cc pc = .ok (.new ik, 3)) (d3 : decode cc (pc + 3) = .ok (.dup, 1)) (d4 : decode cc (pc + 4) = .ok (.ldc is, 2)) (d6 : decode cc (pc + 6) = .ok (.invokespecial ic, 3)) (d9 : decode cc (pc + 9) = .ok (.athrow, 1))
    (hout : ∀ x ∈ c.exceptionTable.toList, covers x (pc + 9) = false)
    (hRframes : names.length + 3 < R.frames) (hRlocals : (rest.map fun v => v.category).sum + (13 * (names.length + 1) + 43) ≤ R.locals) (hRcells : cells + 1 ≤ R.cells) (hRslots : slots + 6 ≤ R.slots) (hlocks : meth.locks = false)
    (hx : ∀ t : State, s.vm.Alike t.vm → H.size ≤ t.heap.size → (∀ q : Nat, q < H.size → t.heap[q]? = H[q]?) → XC cls s t)
    (hf : ∀ z ∈ locs, free z.base) (hc : cells + 1 ≤ mc) (hs : slots + 6 ≤ ms) :
    W p l e R s m args below meth c H locs cells slots (vx_MQ below Qc XC args s mc ms free) (F0 m pc ls rest) := by
  intro T hT X
  have htr : e.platform.stackTraces = false := (show e.platform.stackTraces = l.stackTraces by rw [X.admits.platform]).trans hl
  have Y := vx_rebase X (R' := { frames := R.frames, locals := R.locals, cells := 1, slots := 6 }) (Nat.le_refl _) (Nat.le_refl _) hRcells hRslots
  obtain ⟨s', hA⟩ : ∃ z, z = (T.setVm s.vm).setFrames (.invoking m args :: below) := ⟨_, rfl⟩
  rw [← hA] at Y
  have hvm : s'.vm = s.vm := by rw [hA]; rfl
  have hhp : s'.heap = H := by rw [hA]; exact hT
  have hW0 : s.WarmedH s'.vm := by rw [hvm]; exact State.WarmedH.refl s
  have hat' : ∀ w ∈ vx_atS own ic cls names, w.before args s' = true := fun w hw => vx_ot_at hW0 hvm.symm (hgood w (List.mem_cons_of_mem _ (List.mem_cons_of_mem _ hw))) (hat w hw)
  have hk' : (Cond.classLink own ik cls).before args s' = true := vx_ot_at hW0 hvm.symm (hgood _ List.mem_cons_self) hk
  have hini' : (Cond.initialized cls).before args s' = true := vx_ot_at hW0 hvm.symm (hgood _ (List.mem_cons_of_mem _ List.mem_cons_self)) hini
  have hU' : vx_Zq Bundle.tN "UNASSIGNED_STACK" Bundle.steD A s' s'.heap := by rw [hhp]; exact vx_Zq.moved hW0.alike (hU.kept hS.2.1)
  have hN' : vx_Zq Bundle.tN "SUPPRESSED_SENTINEL" Bundle.listD A s' s'.heap := by rw [hhp]; exact vx_Zq.moved hW0.alike (hN.kept hS.2.1)
  have h : ∀ w ∈ Bundle.ownAtoms own ic cls names, w.before args s' = true := vx_own hat' (vx_isRefq hU'.1) (vx_isRefq hN'.1) hU'.2.word hN'.2.word
  have hown' : s'.vm.findClass own = some m.cls := by rw [hvm]; exact hown
  have hins : (Cond.instantiable cls 6).before args s' = true := h _ (by simp [Bundle.ownAtoms])
  obtain ⟨vm₁, cX, kX, hfX, hkX, -, -, X₁, st1⟩ := Y.newCold hexec (own := own) (C := cls) (index := ik) (n := 6) hown' hk' hins hini'
    (g := F0 m pc ls rest) rfl (by rw [hb]; exact d0) (Nat.le_refl _) (Nat.le_refl _)
  generalize hT1 : (T.setVm vm₁).pushCell { cls := cX, slots := kX.instanceTypes.map defaultValue, vm := .none } = T1 at X₁ st1
  have hcat : (Value.ref T.heap.size).category = 1 := rfl
  have hcellA : T1.heap[T.heap.size]? = some (freshCell cX kX) := by rw [← hT1]; exact State.heap_pushCell_size _ _
  have d3' : decode c.code (pc + 3) = .ok (.dup, 1) := by rw [hb]; exact d3
  have d4' : decode c.code (pc + 4) = .ok (.ldc is, 2) := by rw [hb]; exact d4
  have hstr' : vk_R own is text sa s' := vk_R.warm hW0 hstr
  obtain ⟨U, hsteps, hrun, hend, hW, hsame, ce, hce, hO⟩ := X₁.ctorThrowS hexec htr (own := own) (cls := cls) (names := names) (ic := ic) hown' hcls hnames h (fun x hx => nomatch hx) hfX hkX hcellA (by rw [hhp, hT]; exact Nat.le_refl _) (msg := .ref sa) rfl
    (g := { method := m, pc := pc + 6, locals := ls, stack := .ref sa :: .ref T.heap.size :: .ref T.heap.size :: rest, locked := none }) rfl hsize rfl rfl (rest := rest) rfl
    (by rw [hb]; exact d6) (by rw [hb]; exact d9) hout hRframes (by simp only [List.map_cons, List.sum_cons, hcat]; omega) hlocks
  obtain ⟨f1, f2⟩ := vx_frame hsame
  rw [hhp] at f1 f2
  have hWs : s.WarmedH U.vm := State.WarmedH.trans hW0 hW
  have hcl : s.vm.findClass cls = some ce.cls := by
    have h9 := hO.cls
    rw [hvm] at h9
    exact h9
  have hall : s.sameButNew ({ U with vm := s.vm } : State) locs mc ms := by
    subst hA
    obtain ⟨e1, e2⟩ := hsame
    rw [State.setFrames_setFrames] at e1
    have h2 : (T.setVm s.vm).sameButNew ({ U with vm := s.vm } : State) [] (0 + 1) (0 + 6) := ⟨e1, e2⟩
    have h3 := X.same.trans h2
    rw [List.append_nil] at h3
    exact h3.mono hc hs
  refine ⟨U, ?_, .threw T.heap.size, hrun, hend, Or.inr ⟨T.heap.size, rfl, cls, ce, locs, hx U hWs.alike f1 (fun q hq => f2 q hq (fun z hz => nomatch hz)), hce, hO.vm, hcl, hWs, hall, hf⟩⟩
  refine st1 _ ?_
  show Steps p.tables e below (T1.setTop { method := m, pc := pc + 3, locals := ls, stack := .ref T.heap.size :: rest, locked := none }) _
  jvm_step X₁.here [X₁.here.top, hexec, d3', Value.category]
  exact X₁.ldcString hexec (own := own) (text := text) (index := is) (a := sa) hown' hstr'.1 hstr'.2
    (g := { method := m, pc := pc + 4, locals := ls, stack := .ref T.heap.size :: .ref T.heap.size :: rest, locked := none }) rfl d4' _ hsteps
/-- 'throw new E("text")', the text by a wide index -/
theorem vx_throwSW {cc : ByteArray} {pc : Nat} (hexec : p.tables.exec = Jvm.exec) (hb : c.code = cc) (hl : l.stackTraces = false) {own cls text : String} {names : List String} {ik is ic mc ms sa : Nat} {A : Nat → Prop}
    (hown : s.vm.findClass own = some m.cls) (hcls : Bundle.fit cls = true) (hnames : ∀ n ∈ names, Bundle.fit n = true)
    (hk : (Cond.classLink own ik cls).before args s = true) (hini : (Cond.initialized cls).before args s = true) (hstr : vk_R own is text sa s) (hat : ∀ w ∈ vx_atS own ic cls names, w.before args s = true)
    (hgood : ∀ w ∈ Cond.classLink own ik cls :: Cond.initialized cls :: vx_atS own ic cls names, vx_ot w = true)
    (hU : vx_Zq Bundle.tN "UNASSIGNED_STACK" Bundle.steD A s s.heap) (hN : vx_Zq Bundle.tN "SUPPRESSED_SENTINEL" Bundle.listD A s s.heap) (hS : va_S A s.heap H locs) (hsize : ls.size = c.maxLocals)
    (d0 : decode cc pc = .ok (.new ik, 3)) (d3 : decode cc (pc + 3) = .ok (.dup, 1)) (d4 : decode cc (pc + 4) = .ok (.ldc_w is, 3)) (d7 : decode cc (pc + 7) = .ok (.invokespecial ic, 3)) (d10 : decode cc (pc + 10) = .ok (.athrow, 1))
    (hout : ∀ x ∈ c.exceptionTable.toList, covers x (pc + 10) = false)
    (hRframes : names.length + 3 < R.frames) (hRlocals : (rest.map fun v => v.category).sum + (13 * (names.length + 1) + 43) ≤ R.locals) (hRcells : cells + 1 ≤ R.cells) (hRslots : slots + 6 ≤ R.slots) (hlocks : meth.locks = false)
    (hx : ∀ t : State, s.vm.Alike t.vm → H.size ≤ t.heap.size → (∀ q : Nat, q < H.size → t.heap[q]? = H[q]?) → XC cls s t)
    (hf : ∀ z ∈ locs, free z.base) (hc : cells + 1 ≤ mc) (hs : slots + 6 ≤ ms) :
    W p l e R s m args below meth c H locs cells slots (vx_MQ below Qc XC args s mc ms free) (F0 m pc ls rest) := by
  intro T hT X
  have htr : e.platform.stackTraces = false := (show e.platform.stackTraces = l.stackTraces by rw [X.admits.platform]).trans hl
  have Y := vx_rebase X (R' := { frames := R.frames, locals := R.locals, cells := 1, slots := 6 }) (Nat.le_refl _) (Nat.le_refl _) hRcells hRslots
  obtain ⟨s', hA⟩ : ∃ z, z = (T.setVm s.vm).setFrames (.invoking m args :: below) := ⟨_, rfl⟩
  rw [← hA] at Y
  have hvm : s'.vm = s.vm := by rw [hA]; rfl
  have hhp : s'.heap = H := by rw [hA]; exact hT
  have hW0 : s.WarmedH s'.vm := by rw [hvm]; exact State.WarmedH.refl s
  have hat' : ∀ w ∈ vx_atS own ic cls names, w.before args s' = true := fun w hw => vx_ot_at hW0 hvm.symm (hgood w (List.mem_cons_of_mem _ (List.mem_cons_of_mem _ hw))) (hat w hw)
  have hk' : (Cond.classLink own ik cls).before args s' = true := vx_ot_at hW0 hvm.symm (hgood _ List.mem_cons_self) hk
  have hini' : (Cond.initialized cls).before args s' = true := vx_ot_at hW0 hvm.symm (hgood _ (List.mem_cons_of_mem _ List.mem_cons_self)) hini
  have hU' : vx_Zq Bundle.tN "UNASSIGNED_STACK" Bundle.steD A s' s'.heap := by rw [hhp]; exact vx_Zq.moved hW0.alike (hU.kept hS.2.1)
  have hN' : vx_Zq Bundle.tN "SUPPRESSED_SENTINEL" Bundle.listD A s' s'.heap := by rw [hhp]; exact vx_Zq.moved hW0.alike (hN.kept hS.2.1)
  have h : ∀ w ∈ Bundle.ownAtoms own ic cls names, w.before args s' = true := vx_own hat' (vx_isRefq hU'.1) (vx_isRefq hN'.1) hU'.2.word hN'.2.word
  have hown' : s'.vm.findClass own = some m.cls := by rw [hvm]; exact hown
  have hins : (Cond.instantiable cls 6).before args s' = true := h _ (by simp [Bundle.ownAtoms])
  obtain ⟨vm₁, cX, kX, hfX, hkX, -, -, X₁, st1⟩ := Y.newCold hexec (own := own) (C := cls) (index := ik) (n := 6) hown' hk' hins hini'
    (g := F0 m pc ls rest) rfl (by rw [hb]; exact d0) (Nat.le_refl _) (Nat.le_refl _)
  generalize hT1 : (T.setVm vm₁).pushCell { cls := cX, slots := kX.instanceTypes.map defaultValue, vm := .none } = T1 at X₁ st1
  have hcat : (Value.ref T.heap.size).category = 1 := rfl
  have hcellA : T1.heap[T.heap.size]? = some (freshCell cX kX) := by rw [← hT1]; exact State.heap_pushCell_size _ _
  have d3' : decode c.code (pc + 3) = .ok (.dup, 1) := by rw [hb]; exact d3
  have d4' : decode c.code (pc + 4) = .ok (.ldc_w is, 3) := by rw [hb]; exact d4
  have hstr' : vk_R own is text sa s' := vk_R.warm hW0 hstr
  obtain ⟨U, hsteps, hrun, hend, hW, hsame, ce, hce, hO⟩ := X₁.ctorThrowS hexec htr (own := own) (cls := cls) (names := names) (ic := ic) hown' hcls hnames h (fun x hx => nomatch hx) hfX hkX hcellA (by rw [hhp, hT]; exact Nat.le_refl _) (msg := .ref sa) rfl
    (g := { method := m, pc := pc + 7, locals := ls, stack := .ref sa :: .ref T.heap.size :: .ref T.heap.size :: rest, locked := none }) rfl hsize rfl rfl (rest := rest) rfl
    (by rw [hb]; exact d7) (by rw [hb]; exact d10) hout hRframes (by simp only [List.map_cons, List.sum_cons, hcat]; omega) hlocks
  obtain ⟨f1, f2⟩ := vx_frame hsame
  rw [hhp] at f1 f2
  have hWs : s.WarmedH U.vm := State.WarmedH.trans hW0 hW
  have hcl : s.vm.findClass cls = some ce.cls := by
    have h9 := hO.cls
    rw [hvm] at h9
    exact h9
  have hall : s.sameButNew ({ U with vm := s.vm } : State) locs mc ms := by
    subst hA
    obtain ⟨e1, e2⟩ := hsame
    rw [State.setFrames_setFrames] at e1
    have h2 : (T.setVm s.vm).sameButNew ({ U with vm := s.vm } : State) [] (0 + 1) (0 + 6) := ⟨e1, e2⟩
    have h3 := X.same.trans h2
    rw [List.append_nil] at h3
    exact h3.mono hc hs
  refine ⟨U, ?_, .threw T.heap.size, hrun, hend, Or.inr ⟨T.heap.size, rfl, cls, ce, locs, hx U hWs.alike f1 (fun q hq => f2 q hq (fun z hz => nomatch hz)), hce, hO.vm, hcl, hWs, hall, hf⟩⟩
  refine st1 _ ?_
  show Steps p.tables e below (T1.setTop { method := m, pc := pc + 3, locals := ls, stack := .ref T.heap.size :: rest, locked := none }) _
  jvm_step X₁.here [X₁.here.top, hexec, d3', Value.category]
  exact X₁.ldcStringW hexec (own := own) (text := text) (index := is) (a := sa) hown' hstr'.1 hstr'.2
    (g := { method := m, pc := pc + 4, locals := ls, stack := .ref T.heap.size :: .ref T.heap.size :: rest, locked := none }) rfl d4' _ hsteps
end Ends
section Bodies
variable {l : Launch}
theorem vx_ofW {y : MethodName} {ws ws' : List Cond} {rm : Room} {Pc : Array Value → State → Prop} {Qc : Array Value → State → Outcome → State → Prop} {XC : String → State → State → Prop} {mc ms : Nat} {free : Addr → Prop} {cc : ByteArray} {maxL : Nat} {ret : Option FieldType}
    (hy : plainName y.cls = true) (hw : ws = Cond.code y cc maxL ret :: ws')
    (body : ∀ p e s m args below meth c s₁, BodyLoose p l y (headSpec ws rm) cc maxL ret e s m args below meth c s₁ → c.maxLocals = maxL → (∀ x ∈ c.exceptionTable.toList, False) → Pc args s →
      W p l e (headSpec ws rm).room s m args below meth c s.heap [] 0 0 (vx_MQ below Qc XC args s mc ms free) (entryFrame m args maxL)) : vx_Met l y ws rm Pc Qc XC mc ms free := by
  refine MetFree.of_bodyS (code := cc) (maxLocals := maxL) (ret := ret) hy ?_ ?_
  · intro args s m h hn
    obtain ⟨meth, c, h1, h2, h3, h4, h5, h6, -, -⟩ := Cond.code_spec hn (atoms_spec (ws := ws) h _ (by rw [hw]; exact List.mem_cons_self))
    exact ⟨meth, c, h1, h2, h3, h4, h5, h6⟩
  · intro p e s m args below meth c s₁ B hml hP _
    have hh0 : s₁.heap = s.heap := by rw [B.state]; rfl
    have ht : ∀ x ∈ c.exceptionTable.toList, False := by
      obtain ⟨meth9, c9, h1, h2, -, -, -, -, h7, -⟩ := Cond.code_spec B.named (atoms_spec (ws := ws) B.pre _ (by rw [hw]; exact List.mem_cons_self))
      cases Option.some.inj (h1.symm.trans B.method)
      cases Option.some.inj (h2.symm.trans (Stand.of_body B).code)
      intro x hx
      rw [Array.isEmpty_iff.mp h7] at hx
      cases hx
    obtain ⟨t, a1, o, b1, b2, b3⟩ := body p e s m args below meth c s₁ B hml ht hP s₁ hh0 (Stand.of_body B)
    exact ⟨t, o, a1, b1, b2, b3⟩
/-- the table of a body with handlers -/
theorem vx_table {p : Program} {x y : MethodName} {S : Spec} {cc bytes : ByteArray} {maxL maxL' : Nat} {ret ret' : Option FieldType} {e : Env} {s s₁ : State} {m : MethodId} {args : Array Value} {below : List Frame} {meth : Method} {c : Code} {hh : List (Nat × Nat × Nat × Nat)}
    (B : BodyLoose p l y S cc maxL ret e s m args below meth c s₁) (h : (Cond.codeWith y bytes maxL' ret' hh).before args s = true) : c.exceptionTable.toList = tableOf hh := by
  obtain ⟨m9, meth9, c9, hn9, h1, h2, -, -, h6, -⟩ := Cond.codeWith_spec h
  cases Option.some.inj (hn9.symm.trans B.named)
  cases Option.some.inj (h1.symm.trans B.method)
  cases Option.some.inj (h2.symm.trans (Stand.of_body B).code)
  rw [← h6, table_eq]
end Bodies
end VXA
/-! ===== END ===== -/
/-! ===== BEGIN a static call of a method with an exception table ===== -/
section VXS
variable {p : Program} {l : Launch} {e : Env} {R : Room} {s : State} {m : MethodId} {args : Array Value} {below : List Frame} {meth : Method} {c : Code} {T : State} {H : Heap} {locs : List Loc} {cells slots : Nat}
abbrev vx_CSW (R : Room) (s : State) (args : Array Value) (own : String) (index : Nat) (y : MethodName) (bytes : ByteArray) (maxL : Nat) (ret : Option FieldType) (hh : List (Nat × Nat × Nat × Nat)) (ws : List Cond) (rm : Room) (mc ms n : Nat) : Prop :=
  (rm.cells = mc ∧ rm.slots = ms ∧ rm.frames + 1 ≤ R.frames ∧ 8 + (maxL + 11) + rm.locals ≤ R.locals ∧ (∀ w ∈ ws, ∀ (a' : Array Value) (U : State), s.WarmedH U.vm → w.before a' U = true) ∧ Cond.codeWith y bytes maxL ret hh ∈ ws) ∧
  (Cond.codeWith y bytes maxL ret hh).before args s = true ∧ (Cond.initialized y.cls).before args s = true ∧ (y.cls ≠ "java/lang/invoke/MethodHandle" ∧ y.cls ≠ "java/lang/invoke/VarHandle") ∧
  (∀ sig, parseMethodDescriptor y.desc = some sig → n = sig.parameters.length) ∧ (Cond.methodLink own index y).before args s = true ∧ (Cond.static y).before args s = true
theorem vx_cwSW {own : String} {index maxL mc ms : Nat} {y : MethodName} {bytes : ByteArray} {ret : Option FieldType} {hh : List (Nat × Nat × Nat × Nat)} {Ts ws ws' : List Cond} {rm : Room} (n : Nat) (ht : ∀ w ∈ Ts, w.before args s = true) (hT : GoodIn Ts (va_wsS own index y ws)) (hw : ws = Cond.codeWith y bytes maxL ret hh :: ws') (hrc : rm.cells = mc) (hrs : rm.slots = ms)
    (hd : y.cls ≠ "java/lang/invoke/MethodHandle" ∧ y.cls ≠ "java/lang/invoke/VarHandle" ∧ (parseMethodDescriptor y.desc).map (fun d => d.parameters.length) = some n) (hR : rm.frames + 1 ≤ R.frames ∧ 8 + (maxL + 11) + rm.locals ≤ R.locals) :
    vx_CSW R s args own index y bytes maxL ret hh ws rm mc ms n := by
  have ok : ∀ w ∈ va_wsS own index y ws, w.before args s = true := fun w h => ht w (hT w h).1
  have hG : GoodIn Ts ws := fun w h => hT w (by unfold va_wsS; exact List.mem_append_right _ h)
  have hc : Cond.codeWith y bytes maxL ret hh ∈ ws := by rw [hw]; exact List.mem_cons_self
  refine ⟨⟨hrc, hrs, hR.1, hR.2, pay_in ht hG, hc⟩, ht _ (hG _ hc).1, ok _ (by simp [va_wsS]), ⟨hd.1, hd.2.1⟩, fun sig h => ?_, ok _ (by simp [va_wsS]), ok _ (by simp [va_wsS])⟩
  have h2 := hd.2.2
  rw [h] at h2
  exact (Option.some.inj h2).symm
theorem vx_callSW (X : Stand p l e R s m args below meth c T locs cells slots) (hexec : p.tables.exec = Jvm.exec) {own : String} {index : Nat} {y : MethodName} {bytes : ByteArray} {maxL : Nat} {ret : Option FieldType} {hh : List (Nat × Nat × Nat × Nat)}
    (hown : s.vm.findClass own = some m.cls) (hlink : (Cond.methodLink own index y).before args s = true) (hstat : (Cond.static y).before args s = true) (hinit : (Cond.initialized y.cls).before args s = true)
    (hcode : (Cond.codeWith y bytes maxL ret hh).before args s = true) (hy : y.cls ≠ "java/lang/invoke/MethodHandle" ∧ y.cls ≠ "java/lang/invoke/VarHandle")
    {W9 : Nat} {Pre : Pt → Array Value → Prop} {Post : Pt → Array Value → Option Value → Pt → Prop} (hK : Back l R p e below s args y 3 W9 Pre Post)
    {g : JFrame} (hg : g.method = m) (hsize : g.locals.size = c.maxLocals) {argsL rest : List Value} (hlen : ∀ sig, parseMethodDescriptor y.desc = some sig → argsL.length = sig.parameters.length)
    (hstack : g.stack = argsL.reverse ++ rest) (hW : 2 * g.monitorRoom + (rest.map fun v => v.category).sum ≤ W9) (hdg : decode c.code g.pc = .ok (.invokestatic index, 3))
    (hpre : ∀ vm₁, s.WarmedH vm₁ → Pre ⟨T.setVm vm₁, locs, cells, slots⟩ argsL.toArray) :
    ∃ (v : Option Value) (vm₁ : Vm) (B : Pt), s.WarmedH vm₁ ∧ Stand p l e R s m args below meth c B.U B.locs B.cells B.slots ∧ Post ⟨T.setVm vm₁, locs, cells, slots⟩ argsL.toArray v B ∧
      ∀ target, Steps p.tables e below (B.U.setTop { g with pc := g.pc + 3, stack := v.toList ++ rest }) target → Steps p.tables e below (T.setTop g) target := by
  obtain ⟨mk, methM, cM, hnamed, hmethM, -, -, -, -, -, -, hsigM⟩ := Cond.codeWith_spec hcode
  have hstatic : methM.isStatic = true := Cond.static_spec hnamed hmethM hstat
  obtain ⟨kP, hkP, -⟩ := className_of_methodNamed hnamed
  have hinitP : kP.init = .initialized := Cond.initialized_spec (findClass_of_methodNamed hnamed) hkP hinit
  obtain ⟨vm₁, X₁, hstep₁⟩ := X.invokestatic hexec hown hlink hnamed hmethM hstatic hkP hinitP hy (g := g) hg (argsL := argsL) (rest := rest) (hlen _ hsigM) hstack hdg
  obtain ⟨v, B, X', hpost, hsteps⟩ := hK m meth c ⟨T.setVm vm₁, locs, cells, slots⟩ { g with stack := rest } (.invokestatic index) mk argsL.toArray X₁ hg hsize hdg hW (X₁.named hnamed) (hpre vm₁ X₁.warmed)
  exact ⟨v, vm₁, B, X₁.warmed, X', hpost, fun target h => hstep₁ _ fun acts => by rw [doInvoke_state]; exact hsteps.trans h⟩
theorem vx_runSW {y : MethodName} {bytes cc : ByteArray} {maxL nL mc ms n index : Nat} {ret : Option FieldType} {hh : List (Nat × Nat × Nat × Nat)} {ws : List Cond} {rm : Room} {Pc : Array Value → State → Prop} {Qc : Array Value → State → Outcome → State → Prop} {free : Addr → Prop} {Ts : List Cond} {own : String} {As rest : List Value} {g : JFrame}
    (S : CallFix p m c cc nL s args Ts own) (hM : Met l y ws rm Pc Qc mc ms free) (cw : vx_CSW R s args own index y bytes maxL ret hh ws rm mc ms n) (hp : PreS s H Pc As)
    (hg : g.method = m) (hn : As.length = n) (hsize : g.locals.size = nL) (hstack : g.stack = As.reverse ++ rest) (hW : 2 * g.monitorRoom + (rest.map fun v => v.category).sum ≤ 8) (hdg : decode cc g.pc = .ok (.invokestatic index, 3)) (hf : cells + mc ≤ R.cells ∧ slots + ms ≤ R.slots) :
    va_Run p l e R s m args below meth c H locs cells slots mc ms g rest (Qc As.toArray) (free) := by
  obtain ⟨⟨hrc, hrs, hfr, hlo, hws, hcw⟩, hcode, hini, hy, hlen, hl, hstt⟩ := cw
  have hK : Back l R p e below s args y 3 8 (PreOf R mc ms Pc) (PostOf Qc mc ms free) := va_backW (hh := hh) (bytes := bytes) (maxL := maxL) (ret := ret) hM hp.1 hrc hrs hfr hlo hws hcw (fun a' U hW => word_at hW (Or.inl (by first | rfl | simp [Cond.onTables, Cond.keeps, Cond.steady])) hini)
  obtain ⟨hx, hb, hml, ho, -⟩ := S
  intro T hT X
  obtain ⟨v, vm₁, ⟨U', l2, c2, s2⟩, hW₁, X', ⟨g', mk, t, L, e1, e2, hq, h1, hL, h2, h3⟩, st⟩ := vx_callSW X hx (hh := hh) (bytes := bytes) (maxL := maxL) (ret := ret) ho hl hstt hini hcode hy hK hg (hsize.trans hml.symm) (argsL := As) (rest := rest) (fun sig h => hn.trans (hlen sig h)) hstack hW (by rw [hb]; exact hdg)
    (fun vm₁ hW₁ => ⟨hf.1, hf.2, hp.2 (T.setVm vm₁) hT hW₁⟩)
  dsimp only [Pt.U, Pt.locs, Pt.cells, Pt.slots] at X' e1 e2 h1 h2 h3 st
  subst h1; subst h2; subst h3
  exact ⟨v, (T.setVm vm₁).calling g' mk As.toArray, t, U', L, hT, X', hL, e1, e2, hq, st⟩
/-- not caught here, past rows that name other classes: it goes on to the caller -/
theorem vx_outP {p : Program} {l : Launch} {e : Env} {R : Room} {s : State} {m : MethodId} {args : Array Value} {below : List Frame} {meth : Method} {c : Code} {H : Heap} {locs : List Loc} {cells slots : Nat} {free : Addr → Prop} {ls : Array Slot} {rest : List Value} {Qc : Array Value → State → Outcome → State → Prop} {XC : String → State → State → Prop}
    {pc : Nat} {own E : String} {ce : Cell} {q : Addr} {mc ms : Nat} (hown : s.vm.findClass own = some m.cls) (hlocks : meth.locks = false)
    (hpass : ∀ z ∈ c.exceptionTable.toList, covers z pc = false ∨ (z.catchType ≠ 0 ∧ ∃ nm : String, (Cond.classLink own z.catchType nm).before args s = true ∧ va_Nc E nm s)) (hcell : H[q]? = some ce) (hv : ce.vm = .none) (hcl : s.vm.findClass E = some ce.cls)
    (hx : ∀ t : State, t.heap = H → s.vm.Alike t.vm → XC E s t) (hf : ∀ z ∈ locs, free z.base) (hc : cells ≤ mc) (hs : slots ≤ ms) :
    vx_W p l e R s m args below meth c H locs cells slots (vx_MQ below Qc XC args s mc ms free) (F0 m pc ls rest) q := by
  intro T hT X
  have hpl : e.platform.magicAccessors = ({} : Platform).magicAccessors := by rw [X.admits.platform]
  obtain ⟨vm', hW', X', st⟩ := X.outThrough hlocks q (g := F0 m pc ls rest) rfl rfl rfl (cell := ce) (by rw [hT]; exact hcell) (by rw [hv]; rfl)
    (by obtain ⟨k9, h9, -⟩ := Vm.findClass_spec hcl; exact ⟨k9, h9⟩) (fun z hz => by
      rcases hpass z hz with h | ⟨hz0, nm, hl1, hn1⟩
      · exact Or.inl h
      · obtain ⟨c6, hc6, hcl6⟩ := Cond.classLink_spec hown hl1 e.platform hpl
        obtain ⟨a8, b8, h1, h2, h3⟩ := hn1
        cases Option.some.inj (h1.symm.trans hcl)
        cases Option.some.inj (h2.symm.trans hc6)
        exact Or.inr ⟨hz0, _, hcl6, h3⟩)
  obtain ⟨g₀, hfr⟩ := X'.frames_eq
  have hcell9 : ((T.setVm vm').setFrames (.throwing q :: below)).heap[q]? = some ce := by
    show T.heap[q]? = some ce
    rw [hT]; exact hcell
  have hend : Ended ((T.setVm vm').setFrames (.throwing q :: below)) below (.threw q) := State.frames_setFrames _ (State.cur_lt_of_frames hfr)
  refine ⟨(T.setVm vm').setFrames (.throwing q :: below), ?_, .threw q, X'.here.running, hend, Or.inr ⟨q, rfl, E, ce, locs, hx _ hT (X'.ends _).1.alike, hcell9, hv, hcl, (X'.ends _).1, (X'.ends _).2.mono hc hs, hf⟩⟩
  rw [X.pushThrowing_eq]
  exact st
/-- a thing of a world lies in the heap -/
theorem vx_lt {D : va_G} {cl : List vw_C} {ws : va_W} {H1 : Heap} (h : va_P D cl ws H1) {k : Nat} {q : Nat × va_E} (hk : ws[k]? = some q) : q.1 < H1.size := (h k q hk).lt
end VXS
/-! ===== END ===== -/
/-! ===== BEGIN methods with a table of their own: called by a name, returning or throwing ===== -/
section VXH
/-! vx_backW, vx_callVX, vx_callSX, vx_callVW, vx_runVW, vx_runVX, vx_runSX, vx_ofWH follow the same proofs as their sisters above (Free/Laws.lean, Shelf42/LK1.lean); vx_outP calls Shelf42/NT130.lean (outThrough). -/
section
variable {l : Launch} {R : Room} {p : Program} {e : Env} {below : List Frame} {s : State} {sargs : Array Value} {y : MethodName} {len W9 : Nat}
theorem vx_backW {ws : List Cond} {rm : Room} {Pc : Array Value → State → Prop} {Qc : Array Value → State → Outcome → State → Prop} {XC : String → State → State → Prop} {mc ms : Nat} {free : Addr → Prop} {bytes : ByteArray} {maxL : Nat} {ret : Option FieldType} {hh : List (Nat × Nat × Nat × Nat)}
    (hM : vx_Met l y ws rm Pc Qc XC mc ms free) (hblind : FrameBlind Pc) (hrc : rm.cells = mc) (hrs : rm.slots = ms)
    (hframes : rm.frames + 1 ≤ R.frames) (hlocals : W9 + (maxL + 11) + rm.locals ≤ R.locals)
    (hws : ∀ w ∈ ws, ∀ a' U, s.WarmedH U.vm → w.before a' U = true) (hcode : Cond.codeWith y bytes maxL ret hh ∈ ws) (hinit : ∀ a' U, s.WarmedH U.vm → (Cond.initialized y.cls).before a' U = true) :
    vx_Back l R p e below s sargs y len W9 (PreOf R mc ms Pc) (PostOf Qc mc ms free) (vx_Post XC mc ms free) := by
  intro m meth c A g ig mk a X hg hsize hdg hW hn hp
  have h1 : (headSpec ws rm).pre.before a A.U = true := atoms_intro fun w hw => hws w hw _ _ X.warmed
  have h2 : (Cond.codeWith y bytes maxL ret hh).before a A.U = true := hws _ hcode _ _ X.warmed
  have h3 : (Cond.initialized y.cls).before a A.U = true := hinit _ _ X.warmed
  have h4 : A.cells + (headSpec ws rm).room.cells ≤ R.cells := by rw [show (headSpec ws rm).room.cells = mc from hrc]; exact hp.1
  have h5 : A.slots + (headSpec ws rm).room.slots ≤ R.slots := by rw [show (headSpec ws rm).room.slots = ms from hrs]; exact hp.2.1
  have hPc : Pc a (A.U.calling g mk a) := hblind _ _ _ _ hp.2.2
  obtain ⟨U, Ls, c0, s0⟩ := A
  dsimp only [Pt.U, Pt.locs, Pt.cells, Pt.slots] at h1 h2 h3 h4 h5 X hn hPc ⊢
  obtain ⟨m9, methY, cY, hn9, hmY, hcY, -, hlY, -⟩ := Cond.codeWith_spec h2
  cases Option.some.inj (hn9.symm.trans hn)
  obtain ⟨kY, hkY, -⟩ := className_of_methodNamed hn
  have hinitY : kY.init = .initialized := Cond.initialized_spec (findClass_of_methodNamed hn) hkY h3
  have h : At U g.method c below := by rw [hg]; exact X.here
  have hlocals9 : W9 + (maxL + 11) + (headSpec ws rm).room.locals ≤ R.locals := hlocals
  have happ : (headSpec ws rm).appliesLoose y e.platform (U.calling g mk a) = true :=
    Spec.appliesLoose_calling (g := g) h hdg hn hkY hinitY
      (X.room_calling (g := g) (R' := (headSpec ws rm).room) hsize hmY hcY hframes (by rw [hlY]; omega) h4 h5) h1
  obtain ⟨mid, hmid⟩ := h.above
  have hfr : (U.setTop g).frames = (.java g :: mid) ++ below := by rw [State.frames_setTop' g h.top, hmid]; rfl
  obtain ⟨o, s₂, hsteps, -, hend, hq⟩ := Steps.callFree hM p X.admits X.cas X.clock (acts := []) hfr happ hPc trivial
  have hq' : vx_Q Qc XC mc ms free a (U.calling g mk a) o s₂ := hq
  rw [State.frames_setTop' g h.top] at hend
  obtain ⟨g₀, hg0⟩ := Option.isSome_iff_exists.mp h.top
  obtain ⟨r, hr⟩ := State.topJava?_eq_some.mp hg0
  have hr' : (({ U with heap := s₂.heap, slotsUsed := s₂.slotsUsed } : State).setVm s₂.vm).frames = .java g₀ :: r := hr
  rcases hq' with ⟨hqc, L, hfe, hL⟩ | ⟨q, rfl, E, ce, L, hx, hce, hcv, hcl, hW₂, hsm, hL⟩
  · obtain ⟨⟨v, rfl⟩, hW₂, e2, q2, q3, q4, q5, q6⟩ := id hfe
    have e3 : s₂ = ({ (U.calling g mk a).setFrames s₂.frames with heap := s₂.heap, slotsUsed := s₂.slotsUsed } : State).setVm s₂.vm := by
      have : s₂ = ({ s₂ with vm := (U.calling g mk a).vm } : State).setVm s₂.vm := rfl
      rw [e2] at this
      exact this
    obtain ⟨c₂, i₂, len₂, hc₂, hd₂, hf₂⟩ := hend
    have hW' : U.WarmedH s₂.vm := hW₂
    have hcc : c₂ = c := by
      have h1 : s₂.code? g.method = U.code? g.method := by
        rw [State.code?_eq, State.code?_eq, hW'.alike.method?]
      exact Option.some.inj (hc₂.symm.trans (h1.trans h.code))
    subst hcc
    have hlen : len₂ = len := by rw [hdg] at hd₂; cases hd₂; rfl
    subst hlen
    have hs₂ : s₂ = (({ U with heap := s₂.heap, slotsUsed := s₂.slotsUsed } : State).setVm s₂.vm).setTop { g with pc := g.pc + len₂, stack := v.toList ++ g.stack } := by
      refine e3.trans ?_
      rw [hf₂, State.calling_eq h.top, State.setFrames_setFrames, State.setTop_of_frames _ hr', hr]
      rfl
    have hsame : U.sameButNew ({ U with heap := s₂.heap, slotsUsed := s₂.slotsUsed } : State) L mc ms := by
      refine ⟨?_, q2, q3, q4, q5, q6⟩
      obtain ⟨t, ht, -⟩ := State.frames_cons hr
      show ({ U with heap := s₂.heap, slotsUsed := s₂.slotsUsed } : State) = { U.setFrames U.frames with heap := s₂.heap, slotsUsed := s₂.slotsUsed }
      rw [State.setFrames_self ht]
    subst hg
    refine Or.inl ⟨v, ⟨(({ U with heap := s₂.heap, slotsUsed := s₂.slotsUsed } : State).setVm s₂.vm), Ls ++ L, c0 + mc, s0 + ms⟩,
      ⟨X.admits, X.cas, X.clock, X.frames, X.room, X.hears, X.method, X.code, (X.here.setHeapUsed s₂.heap s₂.slotsUsed).setVm hW'.alike, X.tail, State.WarmedH.trans X.warmed hW', X.limits, X.bytes, X.same.trans (hsame.setVm s.vm)⟩,
      ⟨g, mk, s₂, L, rfl, rfl, hqc, rfl, hL, rfl, rfl⟩, ?_⟩
    show Steps p.tables e below _ ((({ U with heap := s₂.heap, slotsUsed := s₂.slotsUsed } : State).setVm s₂.vm).setTop { g with pc := g.pc + len₂, stack := v.toList ++ g.stack })
    rw [← hs₂]
    exact hsteps
  · obtain ⟨e2, q2, q3, q4, q5, q6⟩ := id hsm
    have e3 : s₂ = ({ (U.calling g mk a).setFrames s₂.frames with heap := s₂.heap, slotsUsed := s₂.slotsUsed } : State).setVm s₂.vm := by
      have : s₂ = ({ s₂ with vm := (U.calling g mk a).vm } : State).setVm s₂.vm := rfl
      rw [e2] at this
      exact this
    have hf₂ : s₂.frames = .throwing q :: .java g :: U.frames.tail := hend
    have hW' : U.WarmedH s₂.vm := hW₂
    have hs₂ : s₂ = ((({ U with heap := s₂.heap, slotsUsed := s₂.slotsUsed } : State).setVm s₂.vm).setTop g).pushFrame (.throwing q) := by
      refine e3.trans ?_
      rw [hf₂, State.calling_eq h.top, State.setFrames_setFrames, State.pushFrame, State.frames_setTop _ hr', State.setTop_of_frames _ hr', State.setFrames_setFrames, hr]
      rfl
    have hsame : U.sameButNew ({ U with heap := s₂.heap, slotsUsed := s₂.slotsUsed } : State) L mc ms := by
      refine ⟨?_, q2, q3, q4, q5, q6⟩
      obtain ⟨t, ht, -⟩ := State.frames_cons hr
      show ({ U with heap := s₂.heap, slotsUsed := s₂.slotsUsed } : State) = { U.setFrames U.frames with heap := s₂.heap, slotsUsed := s₂.slotsUsed }
      rw [State.setFrames_self ht]
    subst hg
    refine Or.inr ⟨q, ⟨(({ U with heap := s₂.heap, slotsUsed := s₂.slotsUsed } : State).setVm s₂.vm), Ls ++ L, c0 + mc, s0 + ms⟩,
      ⟨X.admits, X.cas, X.clock, X.frames, X.room, X.hears, X.method, X.code, (X.here.setHeapUsed s₂.heap s₂.slotsUsed).setVm hW'.alike, X.tail, State.WarmedH.trans X.warmed hW', X.limits, X.bytes, X.same.trans (hsame.setVm s.vm)⟩,
      ⟨g, mk, s₂, L, E, ce, rfl, rfl, hx, hce, hcv, hcl, rfl, hL, rfl, rfl⟩, ?_⟩
    show Steps p.tables e below _ (((({ U with heap := s₂.heap, slotsUsed := s₂.slotsUsed } : State).setVm s₂.vm).setTop g).pushFrame (.throwing q))
    rw [← hs₂]
    exact hsteps
end
variable {p : Program} {l : Launch} {e : Env} {R : Room} {s : State} {m : MethodId} {args : Array Value} {below : List Frame} {meth : Method} {c : Code} {T : State} {H : Heap} {locs : List Loc} {cells slots : Nat}
theorem vx_callVX (X : Stand p l e R s m args below meth c T locs cells slots) (hexec : p.tables.exec = Jvm.exec) {own C : String} {index : Nat} {y : MethodName} {bytes : ByteArray} {maxL : Nat} {ret : Option FieldType} {hh : List (Nat × Nat × Nat × Nat)}
    (hown : s.vm.findClass own = some m.cls) (hlink : (Cond.methodLink own index y).before args s = true) (hinst : (Cond.instanceMethod y).before args s = true) (hsel : (Cond.selects C y y).before args s = true)
    (hcode : (Cond.codeWith y bytes maxL ret hh).before args s = true) (hy : y.cls ≠ "java/lang/invoke/MethodHandle" ∧ y.cls ≠ "java/lang/invoke/VarHandle")
    {W9 : Nat} {Pre : Pt → Array Value → Prop} {Post : Pt → Array Value → Option Value → Pt → Prop} {PostX : Pt → Array Value → Addr → Pt → Prop} (hK : vx_Back l R p e below s args y 3 W9 Pre Post PostX)
    {b : Addr} {cellB : Cell} (hcell : T.heap[b]? = some cellB) (hobj : cellB.vm.isStatics = false) (hcls : s.vm.findClass C = some cellB.cls)
    {g : JFrame} (hg : g.method = m) (hsize : g.locals.size = c.maxLocals) {argsL rest : List Value} (hlen : ∀ sig, parseMethodDescriptor y.desc = some sig → argsL.length = sig.parameters.length)
    (hstack : g.stack = argsL.reverse ++ .ref b :: rest) (hW : 2 * g.monitorRoom + (rest.map fun v => v.category).sum ≤ W9) (hdg : decode c.code g.pc = .ok (.invokevirtual index, 3))
    (hpre : ∀ vm₁, s.WarmedH vm₁ → Pre ⟨T.setVm vm₁, locs, cells, slots⟩ (Value.ref b :: argsL).toArray) :
    (∃ (v : Option Value) (vm₁ : Vm) (B : Pt), s.WarmedH vm₁ ∧ Stand p l e R s m args below meth c B.U B.locs B.cells B.slots ∧ Post ⟨T.setVm vm₁, locs, cells, slots⟩ (Value.ref b :: argsL).toArray v B ∧
      ∀ target, Steps p.tables e below (B.U.setTop { g with pc := g.pc + 3, stack := v.toList ++ rest }) target → Steps p.tables e below (T.setTop g) target) ∨
    (∃ (q : Addr) (vm₁ : Vm) (B : Pt), s.WarmedH vm₁ ∧ Stand p l e R s m args below meth c B.U B.locs B.cells B.slots ∧ PostX ⟨T.setVm vm₁, locs, cells, slots⟩ (Value.ref b :: argsL).toArray q B ∧
      Steps p.tables e below (T.setTop g) ((B.U.setTop { g with stack := rest }).pushFrame (.throwing q))) := by
  obtain ⟨mk, methM, hnamed, hmethM, hstM, habM⟩ := Cond.instanceMethod_spec hinst
  obtain ⟨m8, methM', cM, hn8, hmethM', -, -, -, -, -, -, hsigM⟩ := Cond.codeWith_spec hcode
  cases Option.some.inj (hn8.symm.trans hnamed)
  cases hmethM.symm.trans hmethM'
  obtain ⟨c2, r2, m2, q1, q2, q3, q4, kP, hkP, hkPi⟩ := Cond.selects_spec hsel
  cases hcls.symm.trans q1
  cases (State.methodFound?_of_named hnamed hy).symm.trans q2
  cases hnamed.symm.trans q3
  have hselP : selectMethod e.platform s.vm cellB.cls mk = .method mk := by rw [Launch.admits_selectMethod X.admits]; exact q4
  obtain ⟨vm₁, X₁, hstep₁⟩ := X.invokevirtual hexec hown hlink hnamed hmethM hstM hkP hkPi hy (a := b) (cell := cellB) hcell
    (fun z h => by rw [h] at hobj; cases hobj) hselP hmethM habM hkP hkPi (g := g) hg (argsL := argsL) (rest := rest) (hlen _ hsigM) hstack hdg
  rcases hK m meth c ⟨T.setVm vm₁, locs, cells, slots⟩ { g with stack := rest } (.invokevirtual index) mk (Value.ref b :: argsL).toArray X₁ hg hsize hdg hW (X₁.named hnamed) (hpre vm₁ X₁.warmed) with ⟨v, B, X', hpost, hsteps⟩ | ⟨q, B, X', hpost, hsteps⟩
  · exact Or.inl ⟨v, vm₁, B, X₁.warmed, X', hpost, fun target h => hstep₁ _ fun acts => by rw [doInvoke_state]; exact hsteps.trans h⟩
  · exact Or.inr ⟨q, vm₁, B, X₁.warmed, X', hpost, hstep₁ _ fun acts => by rw [doInvoke_state]; exact hsteps⟩
theorem vx_callSX (X : Stand p l e R s m args below meth c T locs cells slots) (hexec : p.tables.exec = Jvm.exec) {own : String} {index : Nat} {y : MethodName} {bytes : ByteArray} {maxL : Nat} {ret : Option FieldType} {hh : List (Nat × Nat × Nat × Nat)}
    (hown : s.vm.findClass own = some m.cls) (hlink : (Cond.methodLink own index y).before args s = true) (hstat : (Cond.static y).before args s = true) (hinit : (Cond.initialized y.cls).before args s = true)
    (hcode : (Cond.codeWith y bytes maxL ret hh).before args s = true) (hy : y.cls ≠ "java/lang/invoke/MethodHandle" ∧ y.cls ≠ "java/lang/invoke/VarHandle")
    {W9 : Nat} {Pre : Pt → Array Value → Prop} {Post : Pt → Array Value → Option Value → Pt → Prop} {PostX : Pt → Array Value → Addr → Pt → Prop} (hK : vx_Back l R p e below s args y 3 W9 Pre Post PostX)
    {g : JFrame} (hg : g.method = m) (hsize : g.locals.size = c.maxLocals) {argsL rest : List Value} (hlen : ∀ sig, parseMethodDescriptor y.desc = some sig → argsL.length = sig.parameters.length)
    (hstack : g.stack = argsL.reverse ++ rest) (hW : 2 * g.monitorRoom + (rest.map fun v => v.category).sum ≤ W9) (hdg : decode c.code g.pc = .ok (.invokestatic index, 3))
    (hpre : ∀ vm₁, s.WarmedH vm₁ → Pre ⟨T.setVm vm₁, locs, cells, slots⟩ argsL.toArray) :
    (∃ (v : Option Value) (vm₁ : Vm) (B : Pt), s.WarmedH vm₁ ∧ Stand p l e R s m args below meth c B.U B.locs B.cells B.slots ∧ Post ⟨T.setVm vm₁, locs, cells, slots⟩ argsL.toArray v B ∧
      ∀ target, Steps p.tables e below (B.U.setTop { g with pc := g.pc + 3, stack := v.toList ++ rest }) target → Steps p.tables e below (T.setTop g) target) ∨
    (∃ (q : Addr) (vm₁ : Vm) (B : Pt), s.WarmedH vm₁ ∧ Stand p l e R s m args below meth c B.U B.locs B.cells B.slots ∧ PostX ⟨T.setVm vm₁, locs, cells, slots⟩ argsL.toArray q B ∧
      Steps p.tables e below (T.setTop g) ((B.U.setTop { g with stack := rest }).pushFrame (.throwing q))) := by
  obtain ⟨mk, methM, cM, hnamed, hmethM, -, -, -, -, -, -, hsigM⟩ := Cond.codeWith_spec hcode
  have hstatic : methM.isStatic = true := Cond.static_spec hnamed hmethM hstat
  obtain ⟨kP, hkP, -⟩ := className_of_methodNamed hnamed
  have hinitP : kP.init = .initialized := Cond.initialized_spec (findClass_of_methodNamed hnamed) hkP hinit
  obtain ⟨vm₁, X₁, hstep₁⟩ := X.invokestatic hexec hown hlink hnamed hmethM hstatic hkP hinitP hy (g := g) hg (argsL := argsL) (rest := rest) (hlen _ hsigM) hstack hdg
  rcases hK m meth c ⟨T.setVm vm₁, locs, cells, slots⟩ { g with stack := rest } (.invokestatic index) mk argsL.toArray X₁ hg hsize hdg hW (X₁.named hnamed) (hpre vm₁ X₁.warmed) with ⟨v, B, X', hpost, hsteps⟩ | ⟨q, B, X', hpost, hsteps⟩
  · exact Or.inl ⟨v, vm₁, B, X₁.warmed, X', hpost, fun target h => hstep₁ _ fun acts => by rw [doInvoke_state]; exact hsteps.trans h⟩
  · exact Or.inr ⟨q, vm₁, B, X₁.warmed, X', hpost, hstep₁ _ fun acts => by rw [doInvoke_state]; exact hsteps⟩
theorem vx_callVW (X : Stand p l e R s m args below meth c T locs cells slots) (hexec : p.tables.exec = Jvm.exec) {own C : String} {index : Nat} {y : MethodName} {bytes : ByteArray} {maxL : Nat} {ret : Option FieldType} {hh : List (Nat × Nat × Nat × Nat)}
    (hown : s.vm.findClass own = some m.cls) (hlink : (Cond.methodLink own index y).before args s = true) (hinst : (Cond.instanceMethod y).before args s = true) (hsel : (Cond.selects C y y).before args s = true)
    (hcode : (Cond.codeWith y bytes maxL ret hh).before args s = true) (hy : y.cls ≠ "java/lang/invoke/MethodHandle" ∧ y.cls ≠ "java/lang/invoke/VarHandle")
    {W9 : Nat} {Pre : Pt → Array Value → Prop} {Post : Pt → Array Value → Option Value → Pt → Prop} (hK : Back l R p e below s args y 3 W9 Pre Post)
    {b : Addr} {cellB : Cell} (hcell : T.heap[b]? = some cellB) (hobj : cellB.vm.isStatics = false) (hcls : s.vm.findClass C = some cellB.cls)
    {g : JFrame} (hg : g.method = m) (hsize : g.locals.size = c.maxLocals) {argsL rest : List Value} (hlen : ∀ sig, parseMethodDescriptor y.desc = some sig → argsL.length = sig.parameters.length)
    (hstack : g.stack = argsL.reverse ++ .ref b :: rest) (hW : 2 * g.monitorRoom + (rest.map fun v => v.category).sum ≤ W9) (hdg : decode c.code g.pc = .ok (.invokevirtual index, 3))
    (hpre : ∀ vm₁, s.WarmedH vm₁ → Pre ⟨T.setVm vm₁, locs, cells, slots⟩ (Value.ref b :: argsL).toArray) :
    ∃ (v : Option Value) (vm₁ : Vm) (B : Pt), s.WarmedH vm₁ ∧ Stand p l e R s m args below meth c B.U B.locs B.cells B.slots ∧ Post ⟨T.setVm vm₁, locs, cells, slots⟩ (Value.ref b :: argsL).toArray v B ∧
      ∀ target, Steps p.tables e below (B.U.setTop { g with pc := g.pc + 3, stack := v.toList ++ rest }) target → Steps p.tables e below (T.setTop g) target := by
  obtain ⟨mk, methM, hnamed, hmethM, hstM, habM⟩ := Cond.instanceMethod_spec hinst
  obtain ⟨m8, methM', cM, hn8, hmethM', -, -, -, -, -, -, hsigM⟩ := Cond.codeWith_spec hcode
  cases Option.some.inj (hn8.symm.trans hnamed)
  cases hmethM.symm.trans hmethM'
  obtain ⟨c2, r2, m2, q1, q2, q3, q4, kP, hkP, hkPi⟩ := Cond.selects_spec hsel
  cases hcls.symm.trans q1
  cases (State.methodFound?_of_named hnamed hy).symm.trans q2
  cases hnamed.symm.trans q3
  have hselP : selectMethod e.platform s.vm cellB.cls mk = .method mk := by rw [Launch.admits_selectMethod X.admits]; exact q4
  obtain ⟨vm₁, X₁, hstep₁⟩ := X.invokevirtual hexec hown hlink hnamed hmethM hstM hkP hkPi hy (a := b) (cell := cellB) hcell
    (fun z h => by rw [h] at hobj; cases hobj) hselP hmethM habM hkP hkPi (g := g) hg (argsL := argsL) (rest := rest) (hlen _ hsigM) hstack hdg
  obtain ⟨v, B, X', hpost, hsteps⟩ := hK m meth c ⟨T.setVm vm₁, locs, cells, slots⟩ { g with stack := rest } (.invokevirtual index) mk (Value.ref b :: argsL).toArray X₁ hg hsize hdg hW (X₁.named hnamed) (hpre vm₁ X₁.warmed)
  exact ⟨v, vm₁, B, X₁.warmed, X', hpost, fun target h => hstep₁ _ fun acts => by rw [doInvoke_state]; exact hsteps.trans h⟩
abbrev vx_CVW (R : Room) (s : State) (args : Array Value) (own C : String) (index : Nat) (y : MethodName) (bytes : ByteArray) (maxL : Nat) (ret : Option FieldType) (hh : List (Nat × Nat × Nat × Nat)) (ws : List Cond) (rm : Room) (mc ms n : Nat) : Prop :=
  (rm.cells = mc ∧ rm.slots = ms ∧ rm.frames + 1 ≤ R.frames ∧ 8 + (maxL + 11) + rm.locals ≤ R.locals ∧ (∀ w ∈ ws, ∀ (a' : Array Value) (U : State), s.WarmedH U.vm → w.before a' U = true) ∧ Cond.codeWith y bytes maxL ret hh ∈ ws) ∧
  (Cond.codeWith y bytes maxL ret hh).before args s = true ∧ (Cond.initialized y.cls).before args s = true ∧ (y.cls ≠ "java/lang/invoke/MethodHandle" ∧ y.cls ≠ "java/lang/invoke/VarHandle") ∧
  (∀ sig, parseMethodDescriptor y.desc = some sig → n = sig.parameters.length) ∧ (Cond.methodLink own index y).before args s = true ∧ (Cond.instanceMethod y).before args s = true ∧ (Cond.selects C y y).before args s = true
theorem vx_cwVW {own C : String} {index maxL mc ms : Nat} {y : MethodName} {bytes : ByteArray} {ret : Option FieldType} {hh : List (Nat × Nat × Nat × Nat)} {Ts ws ws' : List Cond} {rm : Room} (n : Nat) (ht : ∀ w ∈ Ts, w.before args s = true) (hT : GoodIn Ts (wsV own index C y ws)) (hw : ws = Cond.codeWith y bytes maxL ret hh :: ws') (hrc : rm.cells = mc) (hrs : rm.slots = ms)
    (hd : y.cls = C ∧ y.cls ≠ "java/lang/invoke/MethodHandle" ∧ y.cls ≠ "java/lang/invoke/VarHandle" ∧ (parseMethodDescriptor y.desc).map (fun d => d.parameters.length) = some n) (hR : rm.frames + 1 ≤ R.frames ∧ 8 + (maxL + 11) + rm.locals ≤ R.locals) :
    vx_CVW R s args own C index y bytes maxL ret hh ws rm mc ms n := by
  obtain ⟨hC, hd⟩ := hd
  subst hC
  have ok : ∀ w ∈ wsV own index y.cls y ws, w.before args s = true := fun w h => ht w (hT w h).1
  have hG : GoodIn Ts ws := fun w h => hT w (by unfold wsV; exact List.mem_append_right _ h)
  have hc : Cond.codeWith y bytes maxL ret hh ∈ ws := by rw [hw]; exact List.mem_cons_self
  refine ⟨⟨hrc, hrs, hR.1, hR.2, pay_in ht hG, hc⟩, ht _ (hG _ hc).1, ok _ (by simp [wsV]), ⟨hd.1, hd.2.1⟩, fun sig h => ?_, ok _ (by simp [wsV]), ok _ (by simp [wsV]), ok _ (by simp [wsV])⟩
  have h2 := hd.2.2
  rw [h] at h2
  exact (Option.some.inj h2).symm
theorem vx_runVW {y : MethodName} {bytes cc : ByteArray} {maxL nL mc ms n index : Nat} {ret : Option FieldType} {hh : List (Nat × Nat × Nat × Nat)} {ws : List Cond} {rm : Room} {Pc : Array Value → State → Prop} {Qc : Array Value → State → Outcome → State → Prop} {free : Addr → Prop} {Ts : List Cond} {own C : String} {b : Addr} {As rest : List Value} {g : JFrame}
    (S : CallFix p m c cc nL s args Ts own) (hM : Met l y ws rm Pc Qc mc ms free) (cw : vx_CVW R s args own C index y bytes maxL ret hh ws rm mc ms n) (hp : PreV s H C b Pc As)
    (hg : g.method = m) (hn : As.length = n) (hsize : g.locals.size = nL) (hstack : g.stack = As.reverse ++ .ref b :: rest) (hW : 2 * g.monitorRoom + (rest.map fun v => v.category).sum ≤ 8) (hdg : decode cc g.pc = .ok (.invokevirtual index, 3)) (hf : cells + mc ≤ R.cells ∧ slots + ms ≤ R.slots) :
    va_Run p l e R s m args below meth c H locs cells slots mc ms g rest (Qc (Value.ref b :: As).toArray) free := by
  obtain ⟨⟨hrc, hrs, hfr, hlo, hws, hcw⟩, hcode, hini, hy, hlen, hl, hin, hse⟩ := cw
  have hK : Back l R p e below s args y 3 8 (PreOf R mc ms Pc) (PostOf Qc mc ms free) := va_backW (hh := hh) (bytes := bytes) (maxL := maxL) (ret := ret) hM hp.1 hrc hrs hfr hlo hws hcw (fun a' U hW => word_at hW (Or.inl (by first | rfl | simp [Cond.onTables, Cond.keeps, Cond.steady])) hini)
  obtain ⟨hx, hb, hml, ho, -⟩ := S
  obtain ⟨-, ⟨cellB, hcB, hoB, hclB⟩, hPc⟩ := hp
  intro T hT X
  obtain ⟨v, vm₁, ⟨U', l2, c2, s2⟩, hW₁, X', ⟨g', mk, t, L, e1, e2, hq, h1, hL, h2, h3⟩, st⟩ := vx_callVW X hx (C := C) (hh := hh) (bytes := bytes) (maxL := maxL) (ret := ret) ho hl hin hse hcode hy hK (by rw [hT]; exact hcB) hoB hclB hg (hsize.trans hml.symm) (argsL := As) (rest := rest) (fun sig h => hn.trans (hlen sig h)) hstack hW (by rw [hb]; exact hdg)
    (fun vm₁ hW₁ => ⟨hf.1, hf.2, hPc (T.setVm vm₁) hT hW₁⟩)
  dsimp only [Pt.U, Pt.locs, Pt.cells, Pt.slots] at X' e1 e2 h1 h2 h3 st
  subst h1; subst h2; subst h3
  exact ⟨v, (T.setVm vm₁).calling g' mk (Value.ref b :: As).toArray, t, U', L, hT, X', hL, e1, e2, hq, st⟩
section
variable {y : MethodName} {bytes cc : ByteArray} {maxL nL mc ms n index : Nat} {ret : Option FieldType} {ws : List Cond} {rm : Room} {Pc : Array Value → State → Prop} {Qc : Array Value → State → Outcome → State → Prop} {XC : String → State → State → Prop} {free : Addr → Prop} {Ts : List Cond} {own C : String} {b : Addr} {As rest : List Value} {g : JFrame}
theorem vx_runVX {hh : List (Nat × Nat × Nat × Nat)} (S : CallFix p m c cc nL s args Ts own) (hM : vx_Met l y ws rm Pc Qc XC mc ms free) (cw : vx_CVW R s args own C index y bytes maxL ret hh ws rm mc ms n) (hp : PreV s H C b Pc As)
    (hg : g.method = m) (hn : As.length = n) (hsize : g.locals.size = nL) (hstack : g.stack = As.reverse ++ .ref b :: rest) (hW : 2 * g.monitorRoom + (rest.map fun v => v.category).sum ≤ 8) (hdg : decode cc g.pc = .ok (.invokevirtual index, 3)) (hf : cells + mc ≤ R.cells ∧ slots + ms ≤ R.slots) :
    vx_Run p l e R s m args below meth c H locs cells slots mc ms g rest (Qc (Value.ref b :: As).toArray) XC free := by
  obtain ⟨⟨hrc, hrs, hfr, hlo, hws, hcw⟩, hcode, hini, hy, hlen, hl, hin, hse⟩ := cw
  have hK : vx_Back l R p e below s args y 3 8 (PreOf R mc ms Pc) (PostOf Qc mc ms free) (vx_Post XC mc ms free) := vx_backW (hh := hh) (bytes := bytes) (maxL := maxL) (ret := ret) hM hp.1 hrc hrs hfr hlo hws hcw (fun a' U hW => word_at hW (Or.inl (by first | rfl | simp [Cond.onTables, Cond.keeps, Cond.steady])) hini)
  obtain ⟨hx, hb, hml, ho, -⟩ := S
  obtain ⟨-, ⟨cellB, hcB, hoB, hclB⟩, hPc⟩ := hp
  intro T hT X
  rcases vx_callVX X hx (C := C) (hh := hh) (bytes := bytes) (maxL := maxL) (ret := ret) ho hl hin hse hcode hy hK (by rw [hT]; exact hcB) hoB hclB hg (hsize.trans hml.symm) (argsL := As) (rest := rest) (fun sig h => hn.trans (hlen sig h)) hstack hW (by rw [hb]; exact hdg)
    (fun vm₁ hW₁ => ⟨hf.1, hf.2, hPc (T.setVm vm₁) hT hW₁⟩) with ⟨v, vm₁, ⟨U', l2, c2, s2⟩, hW₁, X', ⟨g', mk, t, L, e1, e2, hq, h1, hL, h2, h3⟩, st⟩ | ⟨q, vm₁, ⟨U', l2, c2, s2⟩, hW₁, X', ⟨g', mk, t, L, E, ce, e1, e2, hq, hce, hcv, hcl, h1, hL, h2, h3⟩, st⟩
  · dsimp only [Pt.U, Pt.locs, Pt.cells, Pt.slots] at X' e1 e2 h1 h2 h3 st
    subst h1; subst h2; subst h3
    exact Or.inl ⟨v, (T.setVm vm₁).calling g' mk (Value.ref b :: As).toArray, t, U', L, hT, X', hL, e1, e2, hq, st⟩
  · dsimp only [Pt.U, Pt.locs, Pt.cells, Pt.slots] at X' e1 e2 h1 h2 h3 st hcl
    subst h1; subst h2; subst h3
    exact Or.inr ⟨q, (T.setVm vm₁).calling g' mk (Value.ref b :: As).toArray, t, U', L, E, ce, hT, X', hL, e1, e2, hq, hce, hcv, vx_cls hW₁ hcl, st⟩
theorem vx_runSX {hh : List (Nat × Nat × Nat × Nat)} (S : CallFix p m c cc nL s args Ts own) (hM : vx_Met l y ws rm Pc Qc XC mc ms free) (cw : vx_CSW R s args own index y bytes maxL ret hh ws rm mc ms n) (hp : PreS s H Pc As)
    (hg : g.method = m) (hn : As.length = n) (hsize : g.locals.size = nL) (hstack : g.stack = As.reverse ++ rest) (hW : 2 * g.monitorRoom + (rest.map fun v => v.category).sum ≤ 8) (hdg : decode cc g.pc = .ok (.invokestatic index, 3)) (hf : cells + mc ≤ R.cells ∧ slots + ms ≤ R.slots) :
    vx_Run p l e R s m args below meth c H locs cells slots mc ms g rest (Qc As.toArray) XC free := by
  obtain ⟨⟨hrc, hrs, hfr, hlo, hws, hcw⟩, hcode, hini, hy, hlen, hl, hstt⟩ := cw
  have hK : vx_Back l R p e below s args y 3 8 (PreOf R mc ms Pc) (PostOf Qc mc ms free) (vx_Post XC mc ms free) := vx_backW (hh := hh) (bytes := bytes) (maxL := maxL) (ret := ret) hM hp.1 hrc hrs hfr hlo hws hcw (fun a' U hW => word_at hW (Or.inl (by first | rfl | simp [Cond.onTables, Cond.keeps, Cond.steady])) hini)
  obtain ⟨hx, hb, hml, ho, -⟩ := S
  intro T hT X
  rcases vx_callSX X hx (hh := hh) (bytes := bytes) (maxL := maxL) (ret := ret) ho hl hstt hini hcode hy hK hg (hsize.trans hml.symm) (argsL := As) (rest := rest) (fun sig h => hn.trans (hlen sig h)) hstack hW (by rw [hb]; exact hdg)
    (fun vm₁ hW₁ => ⟨hf.1, hf.2, hp.2 (T.setVm vm₁) hT hW₁⟩) with ⟨v, vm₁, ⟨U', l2, c2, s2⟩, hW₁, X', ⟨g', mk, t, L, e1, e2, hq, h1, hL, h2, h3⟩, st⟩ | ⟨q, vm₁, ⟨U', l2, c2, s2⟩, hW₁, X', ⟨g', mk, t, L, E, ce, e1, e2, hq, hce, hcv, hcl, h1, hL, h2, h3⟩, st⟩
  · dsimp only [Pt.U, Pt.locs, Pt.cells, Pt.slots] at X' e1 e2 h1 h2 h3 st
    subst h1; subst h2; subst h3
    exact Or.inl ⟨v, (T.setVm vm₁).calling g' mk As.toArray, t, U', L, hT, X', hL, e1, e2, hq, st⟩
  · dsimp only [Pt.U, Pt.locs, Pt.cells, Pt.slots] at X' e1 e2 h1 h2 h3 st hcl
    subst h1; subst h2; subst h3
    exact Or.inr ⟨q, (T.setVm vm₁).calling g' mk As.toArray, t, U', L, E, ce, hT, X', hL, e1, e2, hq, hce, hcv, vx_cls hW₁ hcl, st⟩
end
end VXH
theorem vx_ofWH {l : Launch} {y : MethodName} {ws ws' : List Cond} {rm : Room} {Pc : Array Value → State → Prop} {Qc : Array Value → State → Outcome → State → Prop} {XC : String → State → State → Prop} {mc ms : Nat} {free : Addr → Prop} {cc : ByteArray} {maxL : Nat} {ret : Option FieldType} {hh : List (Nat × Nat × Nat × Nat)}
    (hy : plainName y.cls = true) (hw : ws = Cond.codeWith y cc maxL ret hh :: ws')
    (body : ∀ p e s m args below meth c s₁, BodyLoose p l y (headSpec ws rm) cc maxL ret e s m args below meth c s₁ → c.maxLocals = maxL → Pc args s →
      W p l e (headSpec ws rm).room s m args below meth c s.heap [] 0 0 (vx_MQ below Qc XC args s mc ms free) (entryFrame m args maxL)) : vx_Met l y ws rm Pc Qc XC mc ms free := by
  refine MetFree.of_bodyS (code := cc) (maxLocals := maxL) (ret := ret) hy ?_ ?_
  · intro args s m h hn
    obtain ⟨m9, meth, c, hn9, h1, h2, h3, h4, -, h5, h6, -⟩ := Cond.codeWith_spec (atoms_spec (ws := ws) h _ (by rw [hw]; exact List.mem_cons_self))
    cases hn.symm.trans hn9
    exact ⟨meth, c, h1, h2, h3, h4, h5, h6⟩
  · intro p e s m args below meth c s₁ B hml hP _
    have hh0 : s₁.heap = s.heap := by rw [B.state]; rfl
    obtain ⟨t, a1, o, b1, b2, b3⟩ := body p e s m args below meth c s₁ B hml hP s₁ hh0 (Stand.of_body B)
    exact ⟨t, o, a1, b1, b2, b3⟩
/-! ===== END ===== -/

/-! ===== BEGIN a constructor that throws (launches without stack traces) ===== -/
section VXIA
variable {p : Program} {l : Launch} {e : Env} {R : Room} {s : State} {m : MethodId} {args : Array Value} {below : List Frame} {meth : Method} {c : Code} {T : State} {locs : List Loc} {cells slots : Nat}
theorem vx_callI (X : Stand p l e R s m args below meth c T locs cells slots) (hexec : p.tables.exec = Jvm.exec) {own : String} {index : Nat} {y : MethodName} {bytes : ByteArray} {maxL : Nat}
    (hown : s.vm.findClass own = some m.cls) (hy1 : y.name = "<init>") (hlink : (Cond.methodLink own index y).before args s = true) (hinst : (Cond.instanceMethod y).before args s = true)
    (hcode : (Cond.code y bytes maxL none).before args s = true) (hy : y.cls ≠ "java/lang/invoke/MethodHandle" ∧ y.cls ≠ "java/lang/invoke/VarHandle")
    {W9 : Nat} {Pre : Pt → Array Value → Prop} {Post : Pt → Array Value → Option Value → Pt → Prop} {PostX : Pt → Array Value → Addr → Pt → Prop} (hK : vx_Back l R p e below s args y 3 W9 Pre Post PostX)
    {g : JFrame} (hg : g.method = m) (hsize : g.locals.size = c.maxLocals) {a : Addr} {argsL rest : List Value} (hlen : ∀ sig, parseMethodDescriptor y.desc = some sig → argsL.length = sig.parameters.length)
    (hstack : g.stack = argsL.reverse ++ .ref a :: rest) (hW : 2 * g.monitorRoom + (rest.map fun v => v.category).sum ≤ W9) (hdg : decode c.code g.pc = .ok (.invokespecial index, 3))
    (hpre : ∀ vm₁, s.WarmedH vm₁ → Pre ⟨T.setVm vm₁, locs, cells, slots⟩ (Value.ref a :: argsL).toArray) :
    (∃ (v : Option Value) (vm₁ : Vm) (B : Pt), s.WarmedH vm₁ ∧ Stand p l e R s m args below meth c B.U B.locs B.cells B.slots ∧ Post ⟨T.setVm vm₁, locs, cells, slots⟩ (Value.ref a :: argsL).toArray v B ∧
      ∀ target, Steps p.tables e below (B.U.setTop { g with pc := g.pc + 3, stack := v.toList ++ rest }) target → Steps p.tables e below (T.setTop g) target) ∨
    (∃ (q : Addr) (vm₁ : Vm) (B : Pt), s.WarmedH vm₁ ∧ Stand p l e R s m args below meth c B.U B.locs B.cells B.slots ∧ PostX ⟨T.setVm vm₁, locs, cells, slots⟩ (Value.ref a :: argsL).toArray q B ∧
      Steps p.tables e below (T.setTop g) ((B.U.setTop { g with stack := rest }).pushFrame (.throwing q))) := by
  subst hg
  have hpl : e.platform.magicAccessors = ({} : Platform).magicAccessors := by rw [X.admits.platform]
  obtain ⟨mk, methM, cM, kP, vm₁, hnamed, hmethM, hcodeM, -, hlocalsM, -, hkP, -, hW₁, hstep₁⟩ := Steps.initColdArgs (e := e) X.here hexec X.warmed hpl hown hy1 hy hlink hinst hcode (f := g) rfl hlen hstack hdg
  have X₁ := X.noted hW₁
  rcases hK g.method meth c ⟨T.setVm vm₁, locs, cells, slots⟩ { g with stack := rest } (.invokespecial index) mk (Value.ref a :: argsL).toArray X₁ rfl hsize hdg hW (X₁.named hnamed) (hpre vm₁ X₁.warmed) with ⟨v, B, X', hpost, hsteps⟩ | ⟨q, B, X', hpost, hsteps⟩
  · exact Or.inl ⟨v, vm₁, B, X₁.warmed, X', hpost, fun target h => hstep₁ _ fun acts => by rw [doInvoke_state]; exact hsteps.trans h⟩
  · exact Or.inr ⟨q, vm₁, B, X₁.warmed, X', hpost, hstep₁ _ fun acts => by rw [doInvoke_state]; exact hsteps⟩
end VXIA
section VXIB
variable {p : Program} {l : Launch} {e : Env} {R : Room} {s : State} {m : MethodId} {args : Array Value} {below : List Frame} {meth : Method} {c : Code} {H : Heap} {locs : List Loc} {cells slots : Nat}
variable {y : MethodName} {bytes cc : ByteArray} {maxL nL mc ms n index : Nat} {ret : Option FieldType} {ws : List Cond} {rm : Room} {Pc : Array Value → State → Prop} {Qc : Array Value → State → Outcome → State → Prop} {XC : String → State → State → Prop} {free : Addr → Prop} {Ts : List Cond} {own C : String} {b : Addr} {As rest : List Value} {g : JFrame}
theorem vx_runI (S : CallFix p m c cc nL s args Ts own) (hM : vx_Met l y ws rm Pc Qc XC mc ms free) (cw : CallB R s args own index y bytes maxL none ws rm mc ms n ∧ y.name = "<init>" ∧ (Cond.instanceMethod y).before args s = true) (hp : PreS s H Pc (.ref b :: As))
    (hg : g.method = m) (hn : As.length = n) (hsize : g.locals.size = nL) (hstack : g.stack = As.reverse ++ .ref b :: rest) (hW : 2 * g.monitorRoom + (rest.map fun v => v.category).sum ≤ 8) (hdg : decode cc g.pc = .ok (.invokespecial index, 3)) (hf : cells + mc ≤ R.cells ∧ slots + ms ≤ R.slots) :
    vx_Run p l e R s m args below meth c H locs cells slots mc ms g rest (Qc (Value.ref b :: As).toArray) XC free := by
  have hK : vx_Back l R p e below s args y 3 8 (PreOf R mc ms Pc) (PostOf Qc mc ms free) (vx_Post XC mc ms free) := vx_callBack cw.1 hM hp.1
  obtain ⟨⟨-, -, -, -, -, -, hcode, -, hy, hlen, hl⟩, hy1, hin⟩ := cw
  obtain ⟨hx, hb, hml, ho, -⟩ := S
  have hPc := hp.2
  intro T hT X
  rcases vx_callI X hx (bytes := bytes) (maxL := maxL) ho hy1 hl hin hcode hy hK hg (hsize.trans hml.symm) (a := b) (argsL := As) (rest := rest) (fun sig h => hn.trans (hlen sig h)) hstack hW (by rw [hb]; exact hdg)
    (fun vm₁ hW₁ => ⟨hf.1, hf.2, hPc (T.setVm vm₁) hT hW₁⟩) with ⟨v, vm₁, ⟨U', l2, c2, s2⟩, hW₁, X', ⟨g', mk, t, L, e1, e2, hq, h1, hL, h2, h3⟩, st⟩ | ⟨q, vm₁, ⟨U', l2, c2, s2⟩, hW₁, X', ⟨g', mk, t, L, E, ce, e1, e2, hq, hce, hcv, hcl, h1, hL, h2, h3⟩, st⟩
  · dsimp only [Pt.U, Pt.locs, Pt.cells, Pt.slots] at X' e1 e2 h1 h2 h3 st
    subst h1; subst h2; subst h3
    exact Or.inl ⟨v, (T.setVm vm₁).calling g' mk (Value.ref b :: As).toArray, t, U', L, hT, X', hL, e1, e2, hq, st⟩
  · dsimp only [Pt.U, Pt.locs, Pt.cells, Pt.slots] at X' e1 e2 h1 h2 h3 st hcl
    subst h1; subst h2; subst h3
    exact Or.inr ⟨q, (T.setVm vm₁).calling g' mk (Value.ref b :: As).toArray, t, U', L, E, ce, hT, X', hL, e1, e2, hq, hce, hcv, vx_cls hW₁ hcl, st⟩
end VXIB
/-! ===== END ===== -/
/-! ===== BEGIN a private constructor of a nest mate that throws ===== -/
section VXIC
variable {p : Program} {l : Launch} {e : Env} {R : Room} {s : State} {m : MethodId} {args : Array Value} {below : List Frame} {meth : Method} {c : Code} {T : State} {locs : List Loc} {cells slots : Nat}
theorem vx_callIN (X : Stand p l e R s m args below meth c T locs cells slots) (hexec : p.tables.exec = Jvm.exec) {own : String} {index : Nat} {host : String} {y : MethodName} {bytes : ByteArray} {maxL : Nat}
    (hown : s.vm.findClass own = some m.cls) (hy1 : y.name = "<init>") (hlink : (Cond.methodLinkNest own index y host).before args s = true) (hinst : (Cond.instanceMethod y).before args s = true)
    (hcode : (Cond.code y bytes maxL none).before args s = true) (hy : y.cls ≠ "java/lang/invoke/MethodHandle" ∧ y.cls ≠ "java/lang/invoke/VarHandle")
    {W9 : Nat} {Pre : Pt → Array Value → Prop} {Post : Pt → Array Value → Option Value → Pt → Prop} {PostX : Pt → Array Value → Addr → Pt → Prop} (hK : vx_Back l R p e below s args y 3 W9 Pre Post PostX)
    {g : JFrame} (hg : g.method = m) (hsize : g.locals.size = c.maxLocals) {a : Addr} {argsL rest : List Value} (hlen : ∀ sig, parseMethodDescriptor y.desc = some sig → argsL.length = sig.parameters.length)
    (hstack : g.stack = argsL.reverse ++ .ref a :: rest) (hW : 2 * g.monitorRoom + (rest.map fun v => v.category).sum ≤ W9) (hdg : decode c.code g.pc = .ok (.invokespecial index, 3))
    (hpre : ∀ vm₁, s.WarmedH vm₁ → Pre ⟨T.setVm vm₁, locs, cells, slots⟩ (Value.ref a :: argsL).toArray) :
    (∃ (v : Option Value) (vm₁ : Vm) (B : Pt), s.WarmedH vm₁ ∧ Stand p l e R s m args below meth c B.U B.locs B.cells B.slots ∧ Post ⟨T.setVm vm₁, locs, cells, slots⟩ (Value.ref a :: argsL).toArray v B ∧
      ∀ target, Steps p.tables e below (B.U.setTop { g with pc := g.pc + 3, stack := v.toList ++ rest }) target → Steps p.tables e below (T.setTop g) target) ∨
    (∃ (q : Addr) (vm₁ : Vm) (B : Pt), s.WarmedH vm₁ ∧ Stand p l e R s m args below meth c B.U B.locs B.cells B.slots ∧ PostX ⟨T.setVm vm₁, locs, cells, slots⟩ (Value.ref a :: argsL).toArray q B ∧
      Steps p.tables e below (T.setTop g) ((B.U.setTop { g with stack := rest }).pushFrame (.throwing q))) := by
  subst hg
  have hpl : e.platform.magicAccessors = ({} : Platform).magicAccessors := by rw [X.admits.platform]
  obtain ⟨mk, methM, cM, kP, vm₁, hnamed, hmethM, hcodeM, -, hlocalsM, -, hkP, -, hW₁, hstep₁⟩ := Steps.initColdArgsNest (e := e) X.here hexec X.warmed hpl hown hy1 hy hlink hinst hcode (f := g) rfl hlen hstack hdg
  have X₁ := X.noted hW₁
  rcases hK g.method meth c ⟨T.setVm vm₁, locs, cells, slots⟩ { g with stack := rest } (.invokespecial index) mk (Value.ref a :: argsL).toArray X₁ rfl hsize hdg hW (X₁.named hnamed) (hpre vm₁ X₁.warmed) with ⟨v, B, X', hpost, hsteps⟩ | ⟨q, B, X', hpost, hsteps⟩
  · exact Or.inl ⟨v, vm₁, B, X₁.warmed, X', hpost, fun target h => hstep₁ _ fun acts => by rw [doInvoke_state]; exact hsteps.trans h⟩
  · exact Or.inr ⟨q, vm₁, B, X₁.warmed, X', hpost, hstep₁ _ fun acts => by rw [doInvoke_state]; exact hsteps⟩
end VXIC
section VXID
variable {p : Program} {l : Launch} {e : Env} {R : Room} {s : State} {m : MethodId} {args : Array Value} {below : List Frame} {meth : Method} {c : Code} {H : Heap} {locs : List Loc} {cells slots : Nat}
theorem vx_runIN {y : MethodName} {bytes cc : ByteArray} {maxL nL mc ms n index : Nat} {ws : List Cond} {rm : Room} {Pc : Array Value → State → Prop} {Qc : Array Value → State → Outcome → State → Prop} {XC : String → State → State → Prop} {free : Addr → Prop} {Ts : List Cond} {own host : String} {b : Addr} {As rest : List Value} {g : JFrame}
    (S : CallFix p m c cc nL s args Ts own) (hM : vx_Met l y ws rm Pc Qc XC mc ms free) (cw : va_CN R s args own index y host bytes maxL none ws rm mc ms n ∧ y.name = "<init>" ∧ (Cond.instanceMethod y).before args s = true) (hp : PreS s H Pc (.ref b :: As))
    (hg : g.method = m) (hn : As.length = n) (hsize : g.locals.size = nL) (hstack : g.stack = As.reverse ++ .ref b :: rest) (hW : 2 * g.monitorRoom + (rest.map fun v => v.category).sum ≤ 8) (hdg : decode cc g.pc = .ok (.invokespecial index, 3)) (hf : cells + mc ≤ R.cells ∧ slots + ms ≤ R.slots) :
    vx_Run p l e R s m args below meth c H locs cells slots mc ms g rest (Qc (Value.ref b :: As).toArray) XC free := by
  obtain ⟨⟨⟨hrc, hrs, hfr, hlo, hws, hcw⟩, hcode, hini, hy, hlen, hl⟩, hx1, hx2⟩ := cw
  have hK : vx_Back l R p e below s args y 3 8 (PreOf R mc ms Pc) (PostOf Qc mc ms free) (vx_Post XC mc ms free) := vx_back (bytes := bytes) (maxL := maxL) (ret := none) hM hp.1 hrc hrs hfr hlo hws hcw (fun a' U hW => word_at hW (Or.inl (by first | rfl | simp [Cond.onTables, Cond.keeps, Cond.steady])) hini)
  obtain ⟨hx, hb, hml, ho, -⟩ := S
  have hPc := hp.2
  intro T hT X
  rcases vx_callIN X hx (bytes := bytes) (maxL := maxL) ho hx1 hl hx2 hcode hy hK hg (hsize.trans hml.symm) (a := b) (argsL := As) (rest := rest) (fun sig h => hn.trans (hlen sig h)) hstack hW (by rw [hb]; exact hdg)
    (fun vm₁ hW₁ => ⟨hf.1, hf.2, hPc (T.setVm vm₁) hT hW₁⟩) with ⟨v, vm₁, ⟨U', l2, c2, s2⟩, hW₁, X', ⟨g', mk, t, L, e1, e2, hq, h1, hL, h2, h3⟩, st⟩ | ⟨q, vm₁, ⟨U', l2, c2, s2⟩, hW₁, X', ⟨g', mk, t, L, E, ce, e1, e2, hq, hce, hcv, hcl, h1, hL, h2, h3⟩, st⟩
  · dsimp only [Pt.U, Pt.locs, Pt.cells, Pt.slots] at X' e1 e2 h1 h2 h3 st
    subst h1; subst h2; subst h3
    exact Or.inl ⟨v, (T.setVm vm₁).calling g' mk (Value.ref b :: As).toArray, t, U', L, hT, X', hL, e1, e2, hq, st⟩
  · dsimp only [Pt.U, Pt.locs, Pt.cells, Pt.slots] at X' e1 e2 h1 h2 h3 st hcl
    subst h1; subst h2; subst h3
    exact Or.inr ⟨q, (T.setVm vm₁).calling g' mk (Value.ref b :: As).toArray, t, U', L, E, ce, hT, X', hL, e1, e2, hq, hce, hcv, vx_cls hW₁ hcl, st⟩
end VXID
/-! ===== END ===== -/
end
section
def RX0 : String := "ChargeYard$Booking"
def TX0 : u_T := fun k => match k with
  | 0 => ("ChargeYard$Booking", "holder", "LChargeYard$Card;", true)
  | 1 => ("ChargeYard$Booking", "from", "I", true)
  | _ => ("ChargeYard$Booking", "to", "I", true)
def tyX0 : Nat → FieldType := fun k => match k with
  | 0 => .object "ChargeYard$Card"
  | 1 => .int
  | _ => .int
theorem nmX0 : ∀ a, a < 3 → ∀ b, b < 3 → a ≠ b → (TX0 a).2.1 ≠ (TX0 b).2.1 := by decide +kernel
theorem tyX0_ok : ∀ k, k < 3 → parseFieldDescriptor (TX0 k).2.2.1 = some (tyX0 k) := by decide +kernel
abbrev cX0_init : ByteArray := prog_2_method_1_code
def yX0_init : MethodName := ⟨RX0, "<init>", "(LChargeYard$Card;II)V"⟩
abbrev cX0_holdsAt : ByteArray := prog_2_method_2_code
def yX0_holdsAt : MethodName := ⟨RX0, "holdsAt", "(I)Z"⟩
abbrev cX0_isLateAt : ByteArray := prog_2_method_3_code
def yX0_isLateAt : MethodName := ⟨RX0, "isLateAt", "(I)Z"⟩
def RX1 : String := "ChargeYard$Car"
def TX1 : u_T := fun k => match k with
  | 0 => ("ChargeYard$Car", "number", "I", true)
  | 1 => ("ChargeYard$Car", "capacity", "I", true)
  | 2 => ("ChargeYard$Car", "most", "I", true)
  | 3 => ("ChargeYard$Car", "holds", "I", false)
  | _ => ("ChargeYard$Car", "isPlugged", "Z", false)
def tyX1 : Nat → FieldType := fun k => match k with
  | 0 => .int
  | 1 => .int
  | 2 => .int
  | 3 => .int
  | _ => .boolean
theorem nmX1 : ∀ a, a < 5 → ∀ b, b < 5 → a ≠ b → (TX1 a).2.1 ≠ (TX1 b).2.1 := by decide +kernel
theorem tyX1_ok : ∀ k, k < 5 → parseFieldDescriptor (TX1 k).2.2.1 = some (tyX1 k) := by decide +kernel
abbrev cX1_init : ByteArray := prog_3_method_1_code
def yX1_init : MethodName := ⟨RX1, "<init>", "(IIII)V"⟩
abbrev cX1_isFull : ByteArray := prog_3_method_2_code
def yX1_isFull : MethodName := ⟨RX1, "isFull", "()Z"⟩
abbrev cX1_wants : ByteArray := prog_3_method_3_code
def yX1_wants : MethodName := ⟨RX1, "wants", "(I)I"⟩
def RX2 : String := "ChargeYard$Card"
def TX2 : u_T := fun k => match k with
  | 0 => ("ChargeYard$Card", "firm", "LChargeYard$Firm;", true)
  | 1 => ("ChargeYard$Card", "rank", "I", true)
  | 2 => ("ChargeYard$Card", "isGood", "Z", false)
  | 3 => ("ChargeYard$Card", "isListed", "Z", false)
  | _ => ("ChargeYard$Card", "debt", "I", false)
def tyX2 : Nat → FieldType := fun k => match k with
  | 0 => .object "ChargeYard$Firm"
  | 1 => .int
  | 2 => .boolean
  | 3 => .boolean
  | _ => .int
theorem nmX2 : ∀ a, a < 5 → ∀ b, b < 5 → a ≠ b → (TX2 a).2.1 ≠ (TX2 b).2.1 := by decide +kernel
theorem tyX2_ok : ∀ k, k < 5 → parseFieldDescriptor (TX2 k).2.2.1 = some (tyX2 k) := by decide +kernel
abbrev cX2_init : ByteArray := prog_4_method_1_code
def yX2_init : MethodName := ⟨RX2, "<init>", "(LChargeYard$Firm;I)V"⟩
def RX3 : String := "ChargeYard$Firm"
def TX3 : u_T := fun k => match k with
  | 0 => ("ChargeYard$Firm", "prices", "LChargeYard$Tariff;", false)
  | _ => ("ChargeYard$Firm", "balance", "I", false)
def tyX3 : Nat → FieldType := fun k => match k with
  | 0 => .object "ChargeYard$Tariff"
  | _ => .int
theorem nmX3 : ∀ a, a < 2 → ∀ b, b < 2 → a ≠ b → (TX3 a).2.1 ≠ (TX3 b).2.1 := by decide +kernel
theorem tyX3_ok : ∀ k, k < 2 → parseFieldDescriptor (TX3 k).2.2.1 = some (tyX3 k) := by decide +kernel
abbrev cX3_init : ByteArray := prog_5_method_1_code
def yX3_init : MethodName := ⟨RX3, "<init>", "()V"⟩
def RX4 : String := "ChargeYard$Session"
def TX4 : u_T := fun k => match k with
  | 0 => ("ChargeYard$Session", "socket", "LChargeYard$Socket;", true)
  | 1 => ("ChargeYard$Session", "car", "LChargeYard$Car;", true)
  | 2 => ("ChargeYard$Session", "card", "LChargeYard$Card;", true)
  | 3 => ("ChargeYard$Session", "prices", "LChargeYard$Tariff;", true)
  | 4 => ("ChargeYard$Session", "values", "LChargeYard$Values;", true)
  | 5 => ("ChargeYard$Session", "energy", "I", false)
  | 6 => ("ChargeYard$Session", "latest", "I", false)
  | 7 => ("ChargeYard$Session", "latestHeard", "I", false)
  | 8 => ("ChargeYard$Session", "isBegunDown", "Z", false)
  | 9 => ("ChargeYard$Session", "isUnplugged", "Z", false)
  | 10 => ("ChargeYard$Session", "isBilled", "Z", false)
  | 11 => ("ChargeYard$Session", "isDisputed", "Z", false)
  | 12 => ("ChargeYard$Session", "bound", "I", false)
  | _ => ("ChargeYard$Session", "flow", "I", false)
def tyX4 : Nat → FieldType := fun k => match k with
  | 0 => .object "ChargeYard$Socket"
  | 1 => .object "ChargeYard$Car"
  | 2 => .object "ChargeYard$Card"
  | 3 => .object "ChargeYard$Tariff"
  | 4 => .object "ChargeYard$Values"
  | 5 => .int
  | 6 => .int
  | 7 => .int
  | 8 => .boolean
  | 9 => .boolean
  | 10 => .boolean
  | 11 => .boolean
  | 12 => .int
  | _ => .int
theorem nmX4 : ∀ a, a < 14 → ∀ b, b < 14 → a ≠ b → (TX4 a).2.1 ≠ (TX4 b).2.1 := by decide +kernel
theorem tyX4_ok : ∀ k, k < 14 → parseFieldDescriptor (TX4 k).2.2.1 = some (tyX4 k) := by decide +kernel
abbrev cX4_init : ByteArray := prog_6_method_1_code
def yX4_init : MethodName := ⟨RX4, "<init>", "(LChargeYard$Socket;LChargeYard$Car;LChargeYard$Card;I)V"⟩
abbrev cX4_boundIn : ByteArray := prog_6_method_2_code
def yX4_boundIn : MethodName := ⟨RX4, "boundIn", "(I)I"⟩
abbrev cX4_mostWhileDown : ByteArray := prog_6_method_3_code
def yX4_mostWhileDown : MethodName := ⟨RX4, "mostWhileDown", "(I)I"⟩
abbrev cX4_takesMore : ByteArray := prog_6_method_4_code
def yX4_takesMore : MethodName := ⟨RX4, "takesMore", "()Z"⟩
abbrev cX4_isOfTwoFirms : ByteArray := prog_6_method_5_code
def yX4_isOfTwoFirms : MethodName := ⟨RX4, "isOfTwoFirms", "()Z"⟩
abbrev cX4_billHeard : ByteArray := prog_6_method_6_code
def yX4_billHeard : MethodName := ⟨RX4, "billHeard", "()I"⟩
abbrev cX4_billAll : ByteArray := prog_6_method_7_code
def yX4_billAll : MethodName := ⟨RX4, "billAll", "()I"⟩
abbrev cX4_state : ByteArray := prog_6_method_8_code
def yX4_state : MethodName := ⟨RX4, "state", "()I"⟩
def RX5 : String := "ChargeYard$Socket"
def TX5 : u_T := fun k => match k with
  | 0 => ("ChargeYard$Socket", "number", "I", true)
  | 1 => ("ChargeYard$Socket", "firm", "LChargeYard$Firm;", true)
  | 2 => ("ChargeYard$Socket", "most", "I", true)
  | 3 => ("ChargeYard$Socket", "isFaulty", "Z", false)
  | 4 => ("ChargeYard$Socket", "isUp", "Z", false)
  | 5 => ("ChargeYard$Socket", "downSince", "I", false)
  | 6 => ("ChargeYard$Socket", "session", "LChargeYard$Session;", false)
  | _ => ("ChargeYard$Socket", "bookings", "Ljava/util/ArrayList;", true)
def tyX5 : Nat → FieldType := fun k => match k with
  | 0 => .int
  | 1 => .object "ChargeYard$Firm"
  | 2 => .int
  | 3 => .boolean
  | 4 => .boolean
  | 5 => .int
  | 6 => .object "ChargeYard$Session"
  | _ => .object "java/util/ArrayList"
theorem nmX5 : ∀ a, a < 8 → ∀ b, b < 8 → a ≠ b → (TX5 a).2.1 ≠ (TX5 b).2.1 := by decide +kernel
theorem tyX5_ok : ∀ k, k < 8 → parseFieldDescriptor (TX5 k).2.2.1 = some (tyX5 k) := by decide +kernel
abbrev cX5_init : ByteArray := prog_7_method_1_code
def yX5_init : MethodName := ⟨RX5, "<init>", "(ILChargeYard$Firm;I)V"⟩
def RX6 : String := "ChargeYard$Tally"
def TX6 : u_T := fun k => match k with
  | 0 => ("ChargeYard$Tally", "energy", "I", false)
  | 1 => ("ChargeYard$Tally", "dayEnergy", "I", false)
  | 2 => ("ChargeYard$Tally", "nightEnergy", "I", false)
  | _ => ("ChargeYard$Tally", "idleMinutes", "I", false)
def tyX6 : Nat → FieldType := fun k => match k with
  | 0 => .int
  | 1 => .int
  | 2 => .int
  | _ => .int
theorem nmX6 : ∀ a, a < 4 → ∀ b, b < 4 → a ≠ b → (TX6 a).2.1 ≠ (TX6 b).2.1 := by decide +kernel
theorem tyX6_ok : ∀ k, k < 4 → parseFieldDescriptor (TX6 k).2.2.1 = some (tyX6 k) := by decide +kernel
abbrev cX6_init : ByteArray := prog_8_method_1_code
def yX6_init : MethodName := ⟨RX6, "<init>", "()V"⟩
abbrev cX6_take : ByteArray := prog_8_method_2_code
def yX6_take : MethodName := ⟨RX6, "take", "(IIZ)V"⟩
abbrev cX6_cents : ByteArray := prog_8_method_3_code
def yX6_cents : MethodName := ⟨RX6, "cents", "(LChargeYard$Tariff;)I"⟩
def RX7 : String := "ChargeYard$Tariff"
def TX7 : u_T := fun k => match k with
  | 0 => ("ChargeYard$Tariff", "start", "I", true)
  | 1 => ("ChargeYard$Tariff", "byDay", "I", true)
  | 2 => ("ChargeYard$Tariff", "byNight", "I", true)
  | _ => ("ChargeYard$Tariff", "idling", "I", true)
def tyX7 : Nat → FieldType := fun k => match k with
  | 0 => .int
  | 1 => .int
  | 2 => .int
  | _ => .int
theorem nmX7 : ∀ a, a < 4 → ∀ b, b < 4 → a ≠ b → (TX7 a).2.1 ≠ (TX7 b).2.1 := by decide +kernel
theorem tyX7_ok : ∀ k, k < 4 → parseFieldDescriptor (TX7 k).2.2.1 = some (tyX7 k) := by decide +kernel
abbrev cX7_init : ByteArray := prog_9_method_1_code
def yX7_init : MethodName := ⟨RX7, "<init>", "(IIII)V"⟩
def RX8 : String := "ChargeYard$Values"
def TX8 : u_T := fun k => match k with
  | 0 => ("ChargeYard$Values", "firstMinute", "I", true)
  | 1 => ("ChargeYard$Values", "row", "[I", false)
  | 2 => ("ChargeYard$Values", "made", "I", false)
  | 3 => ("ChargeYard$Values", "heard", "I", false)
  | _ => ("ChargeYard$Values", "ofHeard", "LChargeYard$Tally;", true)
def tyX8 : Nat → FieldType := fun k => match k with
  | 0 => .int
  | 1 => .array .int
  | 2 => .int
  | 3 => .int
  | _ => .object "ChargeYard$Tally"
theorem nmX8 : ∀ a, a < 5 → ∀ b, b < 5 → a ≠ b → (TX8 a).2.1 ≠ (TX8 b).2.1 := by decide +kernel
theorem tyX8_ok : ∀ k, k < 5 → parseFieldDescriptor (TX8 k).2.2.1 = some (tyX8 k) := by decide +kernel
abbrev cX8_init : ByteArray := prog_10_method_1_code
def yX8_init : MethodName := ⟨RX8, "<init>", "(I)V"⟩
abbrev cX8_make : ByteArray := prog_10_method_2_code
def yX8_make : MethodName := ⟨RX8, "make", "(IZ)V"⟩
abbrev cX8_hearAll : ByteArray := prog_10_method_3_code
def yX8_hearAll : MethodName := ⟨RX8, "hearAll", "()I"⟩
abbrev cX8_ofAll : ByteArray := prog_10_method_4_code
def yX8_ofAll : MethodName := ⟨RX8, "ofAll", "()LChargeYard$Tally;"⟩
abbrev cX8_takeInto : ByteArray := prog_10_method_5_code
def yX8_takeInto : MethodName := ⟨RX8, "takeInto", "(LChargeYard$Tally;I)V"⟩
def RX9 : String := "ChargeYard"
def TX9 : u_T := fun k => match k with
  | 0 => ("ChargeYard", "firms", "Ljava/util/ArrayList;", true)
  | 1 => ("ChargeYard", "sockets", "Ljava/util/ArrayList;", true)
  | 2 => ("ChargeYard", "cars", "Ljava/util/ArrayList;", true)
  | 3 => ("ChargeYard", "cards", "Ljava/util/ArrayList;", true)
  | 4 => ("ChargeYard", "sessions", "Ljava/util/ArrayList;", true)
  | 5 => ("ChargeYard", "running", "Ljava/util/ArrayList;", true)
  | 6 => ("ChargeYard", "minute", "I", false)
  | 7 => ("ChargeYard", "limit", "I", false)
  | 8 => ("ChargeYard", "sun", "I", false)
  | 9 => ("ChargeYard", "degrees", "I", false)
  | _ => ("ChargeYard", "overloadMinutes", "I", false)
def tyX9 : Nat → FieldType := fun k => match k with
  | 0 => .object "java/util/ArrayList"
  | 1 => .object "java/util/ArrayList"
  | 2 => .object "java/util/ArrayList"
  | 3 => .object "java/util/ArrayList"
  | 4 => .object "java/util/ArrayList"
  | 5 => .object "java/util/ArrayList"
  | 6 => .int
  | 7 => .int
  | 8 => .int
  | 9 => .int
  | _ => .int
theorem nmX9 : ∀ a, a < 11 → ∀ b, b < 11 → a ≠ b → (TX9 a).2.1 ≠ (TX9 b).2.1 := by decide +kernel
theorem tyX9_ok : ∀ k, k < 11 → parseFieldDescriptor (TX9 k).2.2.1 = some (tyX9 k) := by decide +kernel
abbrev cX9_init : ByteArray := prog_1_method_1_code
def yX9_init : MethodName := ⟨RX9, "<init>", "()V"⟩
abbrev cX9_socket : ByteArray := prog_1_method_2_code
def yX9_socket : MethodName := ⟨RX9, "socket", "(II)I"⟩
abbrev cX9_car : ByteArray := prog_1_method_3_code
def yX9_car : MethodName := ⟨RX9, "car", "(III)I"⟩
abbrev cX9_card : ByteArray := prog_1_method_4_code
def yX9_card : MethodName := ⟨RX9, "card", "(II)I"⟩
abbrev cX9_good : ByteArray := prog_1_method_5_code
def yX9_good : MethodName := ⟨RX9, "good", "(IZ)Z"⟩
abbrev cX9_set : ByteArray := prog_1_method_6_code
def yX9_set : MethodName := ⟨RX9, "set", "(II)I"⟩
abbrev cX9_fault : ByteArray := prog_1_method_7_code
def yX9_fault : MethodName := ⟨RX9, "fault", "(IZ)Z"⟩
abbrev cX9_link : ByteArray := prog_1_method_8_code
def yX9_link : MethodName := ⟨RX9, "link", "(IZ)I"⟩
abbrev cX9_tariff : ByteArray := prog_1_method_9_code
def yX9_tariff : MethodName := ⟨RX9, "tariff", "(IIIII)V"⟩
abbrev cX9_book : ByteArray := prog_1_method_10_code
def yX9_book : MethodName := ⟨RX9, "book", "(IIII)I"⟩
abbrev cX9_plug : ByteArray := prog_1_method_11_code
def yX9_plug : MethodName := ⟨RX9, "plug", "(III)I"⟩
abbrev cX9_unplug : ByteArray := prog_1_method_12_code
def yX9_unplug : MethodName := ⟨RX9, "unplug", "(I)I"⟩
abbrev cX9_pass : ByteArray := prog_1_method_13_code
def yX9_pass : MethodName := ⟨RX9, "pass", "(I)I"⟩
abbrev cX9_of : ByteArray := prog_1_method_14_code
def yX9_of : MethodName := ⟨RX9, "of", "(II)I"⟩
abbrev cX9_charge : ByteArray := prog_1_method_15_code
def yX9_charge : MethodName := ⟨RX9, "charge", "(I)I"⟩
abbrev cX9_power : ByteArray := prog_1_method_16_code
def yX9_power : MethodName := ⟨RX9, "power", "(I)I"⟩
abbrev cX9_powerAnew : ByteArray := prog_1_method_17_code
def yX9_powerAnew : MethodName := ⟨RX9, "powerAnew", "(I)I"⟩
abbrev cX9_overloads : ByteArray := prog_1_method_18_code
def yX9_overloads : MethodName := ⟨RX9, "overloads", "()I"⟩
abbrev cX9_bill : ByteArray := prog_1_method_19_code
def yX9_bill : MethodName := ⟨RX9, "bill", "(I)I"⟩
abbrev cX9_billAnew : ByteArray := prog_1_method_20_code
def yX9_billAnew : MethodName := ⟨RX9, "billAnew", "(I)I"⟩
abbrev cX9_dispute : ByteArray := prog_1_method_21_code
def yX9_dispute : MethodName := ⟨RX9, "dispute", "(II)I"⟩
abbrev cX9_owes : ByteArray := prog_1_method_22_code
def yX9_owes : MethodName := ⟨RX9, "owes", "(I)I"⟩
abbrev cX9_account : ByteArray := prog_1_method_23_code
def yX9_account : MethodName := ⟨RX9, "account", "(I)I"⟩
abbrev cX9_firmAt : ByteArray := prog_1_method_24_code
def yX9_firmAt : MethodName := ⟨RX9, "firmAt", "(I)LChargeYard$Firm;"⟩
abbrev cX9_socketAt : ByteArray := prog_1_method_25_code
def yX9_socketAt : MethodName := ⟨RX9, "socketAt", "(I)LChargeYard$Socket;"⟩
abbrev cX9_carAt : ByteArray := prog_1_method_26_code
def yX9_carAt : MethodName := ⟨RX9, "carAt", "(I)LChargeYard$Car;"⟩
abbrev cX9_cardAt : ByteArray := prog_1_method_27_code
def yX9_cardAt : MethodName := ⟨RX9, "cardAt", "(I)LChargeYard$Card;"⟩
abbrev cX9_sessionAt : ByteArray := prog_1_method_28_code
def yX9_sessionAt : MethodName := ⟨RX9, "sessionAt", "(I)LChargeYard$Session;"⟩
abbrev cX9_needWithin : ByteArray := prog_1_method_29_code
def yX9_needWithin : MethodName := ⟨RX9, "needWithin", "(III)V"⟩
abbrev cX9_needRoom : ByteArray := prog_1_method_30_code
def yX9_needRoom : MethodName := ⟨RX9, "needRoom", "(II)V"⟩
abbrev cX9_setLimit : ByteArray := prog_1_method_31_code
def yX9_setLimit : MethodName := ⟨RX9, "setLimit", "(I)I"⟩
abbrev cX9_setSun : ByteArray := prog_1_method_32_code
def yX9_setSun : MethodName := ⟨RX9, "setSun", "(I)I"⟩
abbrev cX9_setDegrees : ByteArray := prog_1_method_33_code
def yX9_setDegrees : MethodName := ⟨RX9, "setDegrees", "(I)I"⟩
abbrev cX9_goDown : ByteArray := prog_1_method_34_code
def yX9_goDown : MethodName := ⟨RX9, "goDown", "(LChargeYard$Socket;)V"⟩
abbrev cX9_hearWaiting : ByteArray := prog_1_method_35_code
def yX9_hearWaiting : MethodName := ⟨RX9, "hearWaiting", "(LChargeYard$Socket;)I"⟩
abbrev cX9_isBookedWithin : ByteArray := prog_1_method_36_code
def yX9_isBookedWithin : MethodName := ⟨RX9, "isBookedWithin", "(LChargeYard$Socket;II)Z"⟩
abbrev cX9_isBookedByAnother : ByteArray := prog_1_method_37_code
def yX9_isBookedByAnother : MethodName := ⟨RX9, "isBookedByAnother", "(LChargeYard$Socket;LChargeYard$Card;)Z"⟩
abbrev cX9_useBooking : ByteArray := prog_1_method_38_code
def yX9_useBooking : MethodName := ⟨RX9, "useBooking", "(LChargeYard$Socket;LChargeYard$Card;)V"⟩
abbrev cX9_dropLateBookings : ByteArray := prog_1_method_39_code
def yX9_dropLateBookings : MethodName := ⟨RX9, "dropLateBookings", "()V"⟩
abbrev cX9_refusalOf : ByteArray := prog_1_method_40_code
def yX9_refusalOf : MethodName := ⟨RX9, "refusalOf", "(LChargeYard$Socket;LChargeYard$Car;LChargeYard$Card;)I"⟩
abbrev cX9_begin : ByteArray := prog_1_method_41_code
def yX9_begin : MethodName := ⟨RX9, "begin", "(LChargeYard$Session;)V"⟩
abbrev cX9_leaveRunning : ByteArray := prog_1_method_42_code
def yX9_leaveRunning : MethodName := ⟨RX9, "leaveRunning", "(LChargeYard$Session;)V"⟩
abbrev cX9_serveFirst : ByteArray := prog_1_method_43_code
def yX9_serveFirst : MethodName := ⟨RX9, "serveFirst", "()I"⟩
abbrev cX9_serveRanks : ByteArray := prog_1_method_44_code
def yX9_serveRanks : MethodName := ⟨RX9, "serveRanks", "(IZ)I"⟩
abbrev cX9_shareByLevels : ByteArray := prog_1_method_45_code
def yX9_shareByLevels : MethodName := ⟨RX9, "shareByLevels", "(I)V"⟩
abbrev cX9_raise : ByteArray := prog_1_method_46_code
def yX9_raise : MethodName := ⟨RX9, "raise", "(II)V"⟩
abbrev cX9_shareWattByWatt : ByteArray := prog_1_method_47_code
def yX9_shareWattByWatt : MethodName := ⟨RX9, "shareWattByWatt", "(I)V"⟩
abbrev cX9_passMinute : ByteArray := prog_1_method_48_code
def yX9_passMinute : MethodName := ⟨RX9, "passMinute", "()V"⟩
abbrev cX9_letFlow : ByteArray := prog_1_method_49_code
def yX9_letFlow : MethodName := ⟨RX9, "letFlow", "(LChargeYard$Session;)V"⟩
abbrev cX9_listCards : ByteArray := prog_1_method_50_code
def yX9_listCards : MethodName := ⟨RX9, "listCards", "()V"⟩
abbrev cX9_settleIfDue : ByteArray := prog_1_method_51_code
def yX9_settleIfDue : MethodName := ⟨RX9, "settleIfDue", "(LChargeYard$Session;)V"⟩
abbrev cX9_owe : ByteArray := prog_1_method_52_code
def yX9_owe : MethodName := ⟨RX9, "owe", "(LChargeYard$Session;II)V"⟩
abbrev cX9_partOf : ByteArray := prog_1_method_53_code
def yX9_partOf : MethodName := ⟨RX9, "partOf", "(II)I"⟩
def RX10 : String := "ChargeYardModel"
def TX10 : u_T := fun k => match k with
  | 0 => ("ChargeYardModel", "thrown", "I", false)
  | 1 => ("ChargeYardModel", "now", "I", false)
  | 2 => ("ChargeYardModel", "overloads", "I", false)
  | 3 => ("ChargeYardModel", "limit", "I", false)
  | 4 => ("ChargeYardModel", "sun", "I", false)
  | 5 => ("ChargeYardModel", "degrees", "I", false)
  | 6 => ("ChargeYardModel", "sockets", "I", false)
  | 7 => ("ChargeYardModel", "socketFirm", "[I", true)
  | 8 => ("ChargeYardModel", "most", "[I", true)
  | 9 => ("ChargeYardModel", "isFaulty", "[Z", true)
  | 10 => ("ChargeYardModel", "isDown", "[Z", true)
  | 11 => ("ChargeYardModel", "downSince", "[I", true)
  | 12 => ("ChargeYardModel", "sessionAt", "[I", true)
  | 13 => ("ChargeYardModel", "cars", "I", false)
  | 14 => ("ChargeYardModel", "capacity", "[I", true)
  | 15 => ("ChargeYardModel", "charge", "[I", true)
  | 16 => ("ChargeYardModel", "carPower", "[I", true)
  | 17 => ("ChargeYardModel", "cards", "I", false)
  | 18 => ("ChargeYardModel", "cardFirm", "[I", true)
  | 19 => ("ChargeYardModel", "rank", "[I", true)
  | 20 => ("ChargeYardModel", "isGood", "[Z", true)
  | 21 => ("ChargeYardModel", "isListed", "[Z", true)
  | 22 => ("ChargeYardModel", "owed", "[I", true)
  | 23 => ("ChargeYardModel", "tariffs", "[I", true)
  | 24 => ("ChargeYardModel", "sessionTariff", "[I", true)
  | 25 => ("ChargeYardModel", "firmOwes", "[I", true)
  | 26 => ("ChargeYardModel", "bookings", "[I", true)
  | 27 => ("ChargeYardModel", "bookedCard", "[I", true)
  | 28 => ("ChargeYardModel", "bookedFrom", "[I", true)
  | 29 => ("ChargeYardModel", "bookedTo", "[I", true)
  | 30 => ("ChargeYardModel", "sessions", "I", false)
  | 31 => ("ChargeYardModel", "socketOf", "[I", true)
  | 32 => ("ChargeYardModel", "carOf", "[I", true)
  | 33 => ("ChargeYardModel", "cardOf", "[I", true)
  | 34 => ("ChargeYardModel", "how", "[I", true)
  | 35 => ("ChargeYardModel", "energy", "[I", true)
  | 36 => ("ChargeYardModel", "latest", "[I", true)
  | 37 => ("ChargeYardModel", "values", "[I", true)
  | 38 => ("ChargeYardModel", "heard", "[I", true)
  | 39 => ("ChargeYardModel", "dayAll", "[I", true)
  | 40 => ("ChargeYardModel", "nightAll", "[I", true)
  | 41 => ("ChargeYardModel", "idleAll", "[I", true)
  | 42 => ("ChargeYardModel", "dayHeard", "[I", true)
  | 43 => ("ChargeYardModel", "nightHeard", "[I", true)
  | 44 => ("ChargeYardModel", "idleHeard", "[I", true)
  | 45 => ("ChargeYardModel", "kept", "[I", true)
  | 46 => ("ChargeYardModel", "billed", "[I", true)
  | 47 => ("ChargeYardModel", "isDisputed", "[Z", true)
  | 48 => ("ChargeYardModel", "bound", "[I", true)
  | _ => ("ChargeYardModel", "power", "[I", true)
def tyX10 : Nat → FieldType := fun k => match k with
  | 0 => .int
  | 1 => .int
  | 2 => .int
  | 3 => .int
  | 4 => .int
  | 5 => .int
  | 6 => .int
  | 7 => .array .int
  | 8 => .array .int
  | 9 => .array .boolean
  | 10 => .array .boolean
  | 11 => .array .int
  | 12 => .array .int
  | 13 => .int
  | 14 => .array .int
  | 15 => .array .int
  | 16 => .array .int
  | 17 => .int
  | 18 => .array .int
  | 19 => .array .int
  | 20 => .array .boolean
  | 21 => .array .boolean
  | 22 => .array .int
  | 23 => .array .int
  | 24 => .array .int
  | 25 => .array .int
  | 26 => .array .int
  | 27 => .array .int
  | 28 => .array .int
  | 29 => .array .int
  | 30 => .int
  | 31 => .array .int
  | 32 => .array .int
  | 33 => .array .int
  | 34 => .array .int
  | 35 => .array .int
  | 36 => .array .int
  | 37 => .array .int
  | 38 => .array .int
  | 39 => .array .int
  | 40 => .array .int
  | 41 => .array .int
  | 42 => .array .int
  | 43 => .array .int
  | 44 => .array .int
  | 45 => .array .int
  | 46 => .array .int
  | 47 => .array .boolean
  | 48 => .array .int
  | _ => .array .int
theorem nmX10 : ∀ a, a < 50 → ∀ b, b < 50 → a ≠ b → (TX10 a).2.1 ≠ (TX10 b).2.1 := by decide +kernel
theorem tyX10_ok : ∀ k, k < 50 → parseFieldDescriptor (TX10 k).2.2.1 = some (tyX10 k) := by decide +kernel
abbrev cX10_init : ByteArray := prog_12_method_1_code
def yX10_init : MethodName := ⟨RX10, "<init>", "()V"⟩
abbrev cX10_thrown : ByteArray := prog_12_method_2_code
def yX10_thrown : MethodName := ⟨RX10, "thrown", "()I"⟩
abbrev cX10_stop : ByteArray := prog_12_method_3_code
def yX10_stop : MethodName := ⟨RX10, "stop", "(I)I"⟩
abbrev cX10_refuse : ByteArray := prog_12_method_4_code
def yX10_refuse : MethodName := ⟨RX10, "refuse", "(I)Z"⟩
abbrev cX10_in : ByteArray := prog_12_method_5_code
def yX10_in : MethodName := ⟨RX10, "in", "(III)Z"⟩
abbrev cX10_isFirm : ByteArray := prog_12_method_6_code
def yX10_isFirm : MethodName := ⟨RX10, "isFirm", "(I)Z"⟩
abbrev cX10_isSocket : ByteArray := prog_12_method_7_code
def yX10_isSocket : MethodName := ⟨RX10, "isSocket", "(I)Z"⟩
abbrev cX10_isCard : ByteArray := prog_12_method_8_code
def yX10_isCard : MethodName := ⟨RX10, "isCard", "(I)Z"⟩
abbrev cX10_isSession : ByteArray := prog_12_method_9_code
def yX10_isSession : MethodName := ⟨RX10, "isSession", "(I)Z"⟩
abbrev cX10_socket : ByteArray := prog_12_method_10_code
def yX10_socket : MethodName := ⟨RX10, "socket", "(II)I"⟩
abbrev cX10_car : ByteArray := prog_12_method_11_code
def yX10_car : MethodName := ⟨RX10, "car", "(III)I"⟩
abbrev cX10_card : ByteArray := prog_12_method_12_code
def yX10_card : MethodName := ⟨RX10, "card", "(II)I"⟩
abbrev cX10_good : ByteArray := prog_12_method_13_code
def yX10_good : MethodName := ⟨RX10, "good", "(IZ)Z"⟩
abbrev cX10_set : ByteArray := prog_12_method_14_code
def yX10_set : MethodName := ⟨RX10, "set", "(II)I"⟩
abbrev cX10_fault : ByteArray := prog_12_method_15_code
def yX10_fault : MethodName := ⟨RX10, "fault", "(IZ)Z"⟩
abbrev cX10_hear : ByteArray := prog_12_method_16_code
def yX10_hear : MethodName := ⟨RX10, "hear", "(I)I"⟩
abbrev cX10_link : ByteArray := prog_12_method_17_code
def yX10_link : MethodName := ⟨RX10, "link", "(IZ)I"⟩
abbrev cX10_tariff : ByteArray := prog_12_method_18_code
def yX10_tariff : MethodName := ⟨RX10, "tariff", "(IIIII)V"⟩
abbrev cX10_goes : ByteArray := prog_12_method_19_code
def yX10_goes : MethodName := ⟨RX10, "goes", "(II)V"⟩
abbrev cX10_book : ByteArray := prog_12_method_20_code
def yX10_book : MethodName := ⟨RX10, "book", "(IIII)I"⟩
abbrev cX10_holding : ByteArray := prog_12_method_21_code
def yX10_holding : MethodName := ⟨RX10, "holding", "(I)I"⟩
abbrev cX10_lateGo : ByteArray := prog_12_method_22_code
def yX10_lateGo : MethodName := ⟨RX10, "lateGo", "()V"⟩
abbrev cX10_isAway : ByteArray := prog_12_method_23_code
def yX10_isAway : MethodName := ⟨RX10, "isAway", "(I)Z"⟩
abbrev cX10_plug : ByteArray := prog_12_method_24_code
def yX10_plug : MethodName := ⟨RX10, "plug", "(III)I"⟩
abbrev cX10_billBy : ByteArray := prog_12_method_25_code
def yX10_billBy : MethodName := ⟨RX10, "billBy", "(IIII)I"⟩
abbrev cX10_payFor : ByteArray := prog_12_method_26_code
def yX10_payFor : MethodName := ⟨RX10, "payFor", "(I)V"⟩
abbrev cX10_owe : ByteArray := prog_12_method_27_code
def yX10_owe : MethodName := ⟨RX10, "owe", "(II)V"⟩
abbrev cX10_unplug : ByteArray := prog_12_method_28_code
def yX10_unplug : MethodName := ⟨RX10, "unplug", "(I)I"⟩
abbrev cX10_wants : ByteArray := prog_12_method_29_code
def yX10_wants : MethodName := ⟨RX10, "wants", "(I)I"⟩
abbrev cX10_cap : ByteArray := prog_12_method_30_code
def yX10_cap : MethodName := ⟨RX10, "cap", "(I)I"⟩
abbrev cX10_isServed : ByteArray := prog_12_method_31_code
def yX10_isServed : MethodName := ⟨RX10, "isServed", "(I)Z"⟩
abbrev cX10_behind : ByteArray := prog_12_method_32_code
def yX10_behind : MethodName := ⟨RX10, "behind", "(I)I"⟩
abbrev cX10_isAhead : ByteArray := prog_12_method_33_code
def yX10_isAhead : MethodName := ⟨RX10, "isAhead", "(II)Z"⟩
abbrev cX10_serve : ByteArray := prog_12_method_34_code
def yX10_serve : MethodName := ⟨RX10, "serve", "(IZ)I"⟩
abbrev cX10_isOpen : ByteArray := prog_12_method_35_code
def yX10_isOpen : MethodName := ⟨RX10, "isOpen", "(I)Z"⟩
abbrev cX10_share : ByteArray := prog_12_method_36_code
def yX10_share : MethodName := ⟨RX10, "share", "(I)V"⟩
abbrev cX10_find : ByteArray := prog_12_method_37_code
def yX10_find : MethodName := ⟨RX10, "find", "()I"⟩
abbrev cX10_passOne : ByteArray := prog_12_method_38_code
def yX10_passOne : MethodName := ⟨RX10, "passOne", "()V"⟩
abbrev cX10_pass : ByteArray := prog_12_method_39_code
def yX10_pass : MethodName := ⟨RX10, "pass", "(I)I"⟩
abbrev cX10_of : ByteArray := prog_12_method_40_code
def yX10_of : MethodName := ⟨RX10, "of", "(II)I"⟩
abbrev cX10_charge : ByteArray := prog_12_method_41_code
def yX10_charge : MethodName := ⟨RX10, "charge", "(I)I"⟩
abbrev cX10_power : ByteArray := prog_12_method_42_code
def yX10_power : MethodName := ⟨RX10, "power", "(I)I"⟩
abbrev cX10_powerAnew : ByteArray := prog_12_method_43_code
def yX10_powerAnew : MethodName := ⟨RX10, "powerAnew", "(I)I"⟩
abbrev cX10_overloads : ByteArray := prog_12_method_44_code
def yX10_overloads : MethodName := ⟨RX10, "overloads", "()I"⟩
abbrev cX10_bill : ByteArray := prog_12_method_45_code
def yX10_bill : MethodName := ⟨RX10, "bill", "(I)I"⟩
abbrev cX10_billAnew : ByteArray := prog_12_method_46_code
def yX10_billAnew : MethodName := ⟨RX10, "billAnew", "(I)I"⟩
abbrev cX10_dispute : ByteArray := prog_12_method_47_code
def yX10_dispute : MethodName := ⟨RX10, "dispute", "(II)I"⟩
abbrev cX10_owes : ByteArray := prog_12_method_48_code
def yX10_owes : MethodName := ⟨RX10, "owes", "(I)I"⟩
abbrev cX10_account : ByteArray := prog_12_method_49_code
def yX10_account : MethodName := ⟨RX10, "account", "(I)I"⟩
def RJx145de : String := "java/io/Serializable"
def TJx145de : u_T := fun k => match k with
  | _ => ("", "", "", false)
def tyJx145de : Nat → FieldType := fun k => match k with
  | _ => .int
theorem nmJx145de : ∀ a, a < 0 → ∀ b, b < 0 → a ≠ b → (TJx145de a).2.1 ≠ (TJx145de b).2.1 := by decide +kernel
theorem tyJx145de_ok : ∀ k, k < 0 → parseFieldDescriptor (TJx145de k).2.2.1 = some (tyJx145de k) := by decide +kernel
def RJx8e188 : String := "java/lang/Cloneable"
def TJx8e188 : u_T := fun k => match k with
  | _ => ("", "", "", false)
def tyJx8e188 : Nat → FieldType := fun k => match k with
  | _ => .int
theorem nmJx8e188 : ∀ a, a < 0 → ∀ b, b < 0 → a ≠ b → (TJx8e188 a).2.1 ≠ (TJx8e188 b).2.1 := by decide +kernel
theorem tyJx8e188_ok : ∀ k, k < 0 → parseFieldDescriptor (TJx8e188 k).2.2.1 = some (tyJx8e188 k) := by decide +kernel
def RJxab1ab : String := "java/lang/Iterable"
def TJxab1ab : u_T := fun k => match k with
  | _ => ("", "", "", false)
def tyJxab1ab : Nat → FieldType := fun k => match k with
  | _ => .int
theorem nmJxab1ab : ∀ a, a < 0 → ∀ b, b < 0 → a ≠ b → (TJxab1ab a).2.1 ≠ (TJxab1ab b).2.1 := by decide +kernel
theorem tyJxab1ab_ok : ∀ k, k < 0 → parseFieldDescriptor (TJxab1ab k).2.2.1 = some (tyJxab1ab k) := by decide +kernel
def RJ9 : String := "java/lang/Math"
def TJ9 : u_T := fun k => match k with
  | _ => ("", "", "", false)
def tyJ9 : Nat → FieldType := fun k => match k with
  | _ => .int
theorem nmJ9 : ∀ a, a < 0 → ∀ b, b < 0 → a ≠ b → (TJ9 a).2.1 ≠ (TJ9 b).2.1 := by decide +kernel
theorem tyJ9_ok : ∀ k, k < 0 → parseFieldDescriptor (TJ9 k).2.2.1 = some (tyJ9 k) := by decide +kernel
abbrev cJ9_max_7cf53 : ByteArray := prog_20_method_65_code
def yJ9_max_7cf53 : MethodName := ⟨RJ9, "max", "(II)I"⟩
abbrev cJ9_min_7cf53 : ByteArray := prog_20_method_69_code
def yJ9_min_7cf53 : MethodName := ⟨RJ9, "min", "(II)I"⟩
def RJ0 : String := "java/lang/String"
def TJ0 : u_T := fun k => match k with
  | _ => ("", "", "", false)
def tyJ0 : Nat → FieldType := fun k => match k with
  | _ => .int
theorem nmJ0 : ∀ a, a < 0 → ∀ b, b < 0 → a ≠ b → (TJ0 a).2.1 ≠ (TJ0 b).2.1 := by decide +kernel
theorem tyJ0_ok : ∀ k, k < 0 → parseFieldDescriptor (TJ0 k).2.2.1 = some (tyJ0 k) := by decide +kernel
def RJ10 : String := "java/lang/System"
def TJ10 : u_T := fun k => match k with
  | _ => ("", "", "", false)
def tyJ10 : Nat → FieldType := fun k => match k with
  | _ => .int
theorem nmJ10 : ∀ a, a < 0 → ∀ b, b < 0 → a ≠ b → (TJ10 a).2.1 ≠ (TJ10 b).2.1 := by decide +kernel
theorem tyJ10_ok : ∀ k, k < 0 → parseFieldDescriptor (TJ10 k).2.2.1 = some (tyJ10 k) := by decide +kernel
def RJxa1e45 : String := "java/util/AbstractCollection"
def TJxa1e45 : u_T := fun k => match k with
  | _ => ("", "", "", false)
def tyJxa1e45 : Nat → FieldType := fun k => match k with
  | _ => .int
theorem nmJxa1e45 : ∀ a, a < 0 → ∀ b, b < 0 → a ≠ b → (TJxa1e45 a).2.1 ≠ (TJxa1e45 b).2.1 := by decide +kernel
theorem tyJxa1e45_ok : ∀ k, k < 0 → parseFieldDescriptor (TJxa1e45 k).2.2.1 = some (tyJxa1e45 k) := by decide +kernel
abbrev cJxa1e45_init_da8c8 : ByteArray := prog_25_method_1_code
def yJxa1e45_init_da8c8 : MethodName := ⟨RJxa1e45, "<init>", "()V"⟩
def RJxc12de : String := "java/util/AbstractList"
def TJxc12de : u_T := fun k => match k with
  | _ => ("", "", "", false)
def tyJxc12de : Nat → FieldType := fun k => match k with
  | _ => .int
theorem nmJxc12de : ∀ a, a < 0 → ∀ b, b < 0 → a ≠ b → (TJxc12de a).2.1 ≠ (TJxc12de b).2.1 := by decide +kernel
theorem tyJxc12de_ok : ∀ k, k < 0 → parseFieldDescriptor (TJxc12de k).2.2.1 = some (tyJxc12de k) := by decide +kernel
abbrev cJxc12de_init_da8c8 : ByteArray := prog_26_method_1_code
def yJxc12de_init_da8c8 : MethodName := ⟨RJxc12de, "<init>", "()V"⟩
def RJx4a65c : String := "java/util/ArrayList"
def TJx4a65c : u_T := fun k => match k with
  | 0 => ("java/util/AbstractList", "modCount", "I", false)
  | 1 => ("java/util/ArrayList", "elementData", "[Ljava/lang/Object;", false)
  | _ => ("java/util/ArrayList", "size", "I", false)
def tyJx4a65c : Nat → FieldType := fun k => match k with
  | 0 => .int
  | 1 => .array (.object "java/lang/Object")
  | _ => .int
theorem nmJx4a65c : ∀ a, a < 3 → ∀ b, b < 3 → a ≠ b → (TJx4a65c a).2.1 ≠ (TJx4a65c b).2.1 := by decide +kernel
theorem tyJx4a65c_ok : ∀ k, k < 3 → parseFieldDescriptor (TJx4a65c k).2.2.1 = some (tyJx4a65c k) := by decide +kernel
abbrev cJx4a65c_init_da8c8 : ByteArray := prog_27_method_2_code
def yJx4a65c_init_da8c8 : MethodName := ⟨RJx4a65c, "<init>", "()V"⟩
abbrev cJx4a65c_grow_92f84 : ByteArray := prog_27_method_6_code
def yJx4a65c_grow_92f84 : MethodName := ⟨RJx4a65c, "grow", "(I)[Ljava/lang/Object;"⟩
abbrev cJx4a65c_grow_d5877 : ByteArray := prog_27_method_7_code
def yJx4a65c_grow_d5877 : MethodName := ⟨RJx4a65c, "grow", "()[Ljava/lang/Object;"⟩
abbrev cJx4a65c_size_8abf5 : ByteArray := prog_27_method_8_code
def yJx4a65c_size_8abf5 : MethodName := ⟨RJx4a65c, "size", "()I"⟩
abbrev cJx4a65c_elementData_915e3 : ByteArray := prog_27_method_18_code
def yJx4a65c_elementData_915e3 : MethodName := ⟨RJx4a65c, "elementData", "(I)Ljava/lang/Object;"⟩
abbrev cJx4a65c_get_915e3 : ByteArray := prog_27_method_20_code
def yJx4a65c_get_915e3 : MethodName := ⟨RJx4a65c, "get", "(I)Ljava/lang/Object;"⟩
abbrev cJx4a65c_add_72be8 : ByteArray := prog_27_method_24_code
def yJx4a65c_add_72be8 : MethodName := ⟨RJx4a65c, "add", "(Ljava/lang/Object;[Ljava/lang/Object;I)V"⟩
abbrev cJx4a65c_add_9ea2d : ByteArray := prog_27_method_25_code
def yJx4a65c_add_9ea2d : MethodName := ⟨RJx4a65c, "add", "(Ljava/lang/Object;)Z"⟩
abbrev cJx4a65c_remove_915e3 : ByteArray := prog_27_method_29_code
def yJx4a65c_remove_915e3 : MethodName := ⟨RJx4a65c, "remove", "(I)Ljava/lang/Object;"⟩
abbrev cJx4a65c_fastRemove_b59b0 : ByteArray := prog_27_method_39_code
def yJx4a65c_fastRemove_b59b0 : MethodName := ⟨RJx4a65c, "fastRemove", "([Ljava/lang/Object;I)V"⟩
def RJ7 : String := "java/util/Arrays"
def TJ7 : u_T := fun k => match k with
  | _ => ("", "", "", false)
def tyJ7 : Nat → FieldType := fun k => match k with
  | _ => .int
theorem nmJ7 : ∀ a, a < 0 → ∀ b, b < 0 → a ≠ b → (TJ7 a).2.1 ≠ (TJ7 b).2.1 := by decide +kernel
theorem tyJ7_ok : ∀ k, k < 0 → parseFieldDescriptor (TJ7 k).2.2.1 = some (tyJ7 k) := by decide +kernel
abbrev cJ7_copyOf_1904c : ByteArray := prog_28_method_119_code
def yJ7_copyOf_1904c : MethodName := ⟨RJ7, "copyOf", "([Ljava/lang/Object;I)[Ljava/lang/Object;"⟩
abbrev cJ7_copyOf_6403c : ByteArray := prog_28_method_120_code
def yJ7_copyOf_6403c : MethodName := ⟨RJ7, "copyOf", "([Ljava/lang/Object;ILjava/lang/Class;)[Ljava/lang/Object;"⟩
abbrev cJ7_copyOf_59c91 : ByteArray := prog_28_method_123_code
def yJ7_copyOf_59c91 : MethodName := ⟨RJ7, "copyOf", "([II)[I"⟩
def RJx5ef63 : String := "java/util/Collection"
def TJx5ef63 : u_T := fun k => match k with
  | _ => ("", "", "", false)
def tyJx5ef63 : Nat → FieldType := fun k => match k with
  | _ => .int
theorem nmJx5ef63 : ∀ a, a < 0 → ∀ b, b < 0 → a ≠ b → (TJx5ef63 a).2.1 ≠ (TJx5ef63 b).2.1 := by decide +kernel
theorem tyJx5ef63_ok : ∀ k, k < 0 → parseFieldDescriptor (TJx5ef63 k).2.2.1 = some (tyJx5ef63 k) := by decide +kernel
def RJxbd725 : String := "java/util/List"
def TJxbd725 : u_T := fun k => match k with
  | _ => ("", "", "", false)
def tyJxbd725 : Nat → FieldType := fun k => match k with
  | _ => .int
theorem nmJxbd725 : ∀ a, a < 0 → ∀ b, b < 0 → a ≠ b → (TJxbd725 a).2.1 ≠ (TJxbd725 b).2.1 := by decide +kernel
theorem tyJxbd725_ok : ∀ k, k < 0 → parseFieldDescriptor (TJxbd725 k).2.2.1 = some (tyJxbd725 k) := by decide +kernel
def RJ15 : String := "java/util/Objects"
def TJ15 : u_T := fun k => match k with
  | _ => ("", "", "", false)
def tyJ15 : Nat → FieldType := fun k => match k with
  | _ => .int
theorem nmJ15 : ∀ a, a < 0 → ∀ b, b < 0 → a ≠ b → (TJ15 a).2.1 ≠ (TJ15 b).2.1 := by decide +kernel
theorem tyJ15_ok : ∀ k, k < 0 → parseFieldDescriptor (TJ15 k).2.2.1 = some (tyJ15 k) := by decide +kernel
abbrev cJ15_checkIndex_7cf53 : ByteArray := prog_31_method_17_code
def yJ15_checkIndex_7cf53 : MethodName := ⟨RJ15, "checkIndex", "(II)I"⟩
def RJxf0a74 : String := "java/util/RandomAccess"
def TJxf0a74 : u_T := fun k => match k with
  | _ => ("", "", "", false)
def tyJxf0a74 : Nat → FieldType := fun k => match k with
  | _ => .int
theorem nmJxf0a74 : ∀ a, a < 0 → ∀ b, b < 0 → a ≠ b → (TJxf0a74 a).2.1 ≠ (TJxf0a74 b).2.1 := by decide +kernel
theorem tyJxf0a74_ok : ∀ k, k < 0 → parseFieldDescriptor (TJxf0a74 k).2.2.1 = some (tyJxf0a74 k) := by decide +kernel
def RJxa66e6 : String := "java/util/SequencedCollection"
def TJxa66e6 : u_T := fun k => match k with
  | _ => ("", "", "", false)
def tyJxa66e6 : Nat → FieldType := fun k => match k with
  | _ => .int
theorem nmJxa66e6 : ∀ a, a < 0 → ∀ b, b < 0 → a ≠ b → (TJxa66e6 a).2.1 ≠ (TJxa66e6 b).2.1 := by decide +kernel
theorem tyJxa66e6_ok : ∀ k, k < 0 → parseFieldDescriptor (TJxa66e6 k).2.2.1 = some (tyJxa66e6 k) := by decide +kernel
def RJ8 : String := "jdk/internal/util/ArraysSupport"
def TJ8 : u_T := fun k => match k with
  | _ => ("", "", "", false)
def tyJ8 : Nat → FieldType := fun k => match k with
  | _ => .int
theorem nmJ8 : ∀ a, a < 0 → ∀ b, b < 0 → a ≠ b → (TJ8 a).2.1 ≠ (TJ8 b).2.1 := by decide +kernel
theorem tyJ8_ok : ∀ k, k < 0 → parseFieldDescriptor (TJ8 k).2.2.1 = some (tyJ8 k) := by decide +kernel
abbrev cJ8_newLength_cabcc : ByteArray := prog_34_method_27_code
def yJ8_newLength_cabcc : MethodName := ⟨RJ8, "newLength", "(III)I"⟩
abbrev cJ8_hugeLength_7cf53 : ByteArray := prog_34_method_28_code
def yJ8_hugeLength_7cf53 : MethodName := ⟨RJ8, "hugeLength", "(II)I"⟩
def RJ3 : String := "jdk/internal/util/Preconditions"
def TJ3 : u_T := fun k => match k with
  | _ => ("", "", "", false)
def tyJ3 : Nat → FieldType := fun k => match k with
  | _ => .int
theorem nmJ3 : ∀ a, a < 0 → ∀ b, b < 0 → a ≠ b → (TJ3 a).2.1 ≠ (TJ3 b).2.1 := by decide +kernel
theorem tyJ3_ok : ∀ k, k < 0 → parseFieldDescriptor (TJ3 k).2.2.1 = some (tyJ3 k) := by decide +kernel
abbrev cJ3_checkIndex_8e157 : ByteArray := prog_35_method_11_code
def yJ3_checkIndex_8e157 : MethodName := ⟨RJ3, "checkIndex", "(IILjava/util/function/BiFunction;)I"⟩
def RL : String := "ChargeYardLaw"
abbrev cL_socket : ByteArray := method_3_code
def yL_socket : MethodName := ⟨RL, "socket", "(LChargeYard;II[J)I"⟩
abbrev cL_car : ByteArray := method_4_code
def yL_car : MethodName := ⟨RL, "car", "(LChargeYard;III[J)I"⟩
abbrev cL_card : ByteArray := method_5_code
def yL_card : MethodName := ⟨RL, "card", "(LChargeYard;II[J)I"⟩
abbrev cL_good : ByteArray := method_6_code
def yL_good : MethodName := ⟨RL, "good", "(LChargeYard;IZ[J)I"⟩
abbrev cL_set : ByteArray := method_7_code
def yL_set : MethodName := ⟨RL, "set", "(LChargeYard;II[J)I"⟩
abbrev cL_fault : ByteArray := method_8_code
def yL_fault : MethodName := ⟨RL, "fault", "(LChargeYard;IZ[J)I"⟩
abbrev cL_link : ByteArray := method_9_code
def yL_link : MethodName := ⟨RL, "link", "(LChargeYard;IZ[J)I"⟩
abbrev cL_tariff : ByteArray := method_10_code
def yL_tariff : MethodName := ⟨RL, "tariff", "(LChargeYard;IIIII)I"⟩
abbrev cL_book : ByteArray := method_11_code
def yL_book : MethodName := ⟨RL, "book", "(LChargeYard;IIII[J)I"⟩
abbrev cL_plug : ByteArray := method_12_code
def yL_plug : MethodName := ⟨RL, "plug", "(LChargeYard;III[J)I"⟩
abbrev cL_unplug : ByteArray := method_13_code
def yL_unplug : MethodName := ⟨RL, "unplug", "(LChargeYard;I[J)I"⟩
abbrev cL_pass : ByteArray := method_14_code
def yL_pass : MethodName := ⟨RL, "pass", "(LChargeYard;I[J)I"⟩
abbrev cL_of : ByteArray := method_15_code
def yL_of : MethodName := ⟨RL, "of", "(LChargeYard;II[J)I"⟩
abbrev cL_charge : ByteArray := method_16_code
def yL_charge : MethodName := ⟨RL, "charge", "(LChargeYard;I[J)I"⟩
abbrev cL_power : ByteArray := method_17_code
def yL_power : MethodName := ⟨RL, "power", "(LChargeYard;I[J)I"⟩
abbrev cL_powerAnew : ByteArray := method_18_code
def yL_powerAnew : MethodName := ⟨RL, "powerAnew", "(LChargeYard;I[J)I"⟩
abbrev cL_bill : ByteArray := method_19_code
def yL_bill : MethodName := ⟨RL, "bill", "(LChargeYard;I[J)I"⟩
abbrev cL_billAnew : ByteArray := method_20_code
def yL_billAnew : MethodName := ⟨RL, "billAnew", "(LChargeYard;I[J)I"⟩
abbrev cL_dispute : ByteArray := method_21_code
def yL_dispute : MethodName := ⟨RL, "dispute", "(LChargeYard;II[J)I"⟩
abbrev cL_owes : ByteArray := method_22_code
def yL_owes : MethodName := ⟨RL, "owes", "(LChargeYard;I[J)I"⟩
abbrev cL_account : ByteArray := method_23_code
def yL_account : MethodName := ⟨RL, "account", "(LChargeYard;I[J)I"⟩
abbrev cL_law : ByteArray := code
def yL_law : MethodName := ⟨RL, "law", "([I)Z"⟩
abbrev vwCl : List vw_C := [(RJx4a65c, TJx4a65c, 3), (RX0, TX0, 3), (RX1, TX1, 5), (RX2, TX2, 5), (RX3, TX3, 2), (RX4, TX4, 14), (RX5, TX5, 8), (RX6, TX6, 4), (RX7, TX7, 4), (RX8, TX8, 5), (RX9, TX9, 11), (RX10, TX10, 50)]
end
section
/-! THE CLAIM OUT OF ONE WALK OF THE LAW'S BODY. Your part is whole_start (and what it stands on); all else here is the same for every law, but numbers. -/
def R_law : String := "ChargeYardLaw"
def lw_P (b : Addr) (xs : List Int32) (args : Array Value) (s : State) : Prop := args = #[.ref b] ∧ s.IntsAt b xs ∧ xs.length ≤ 3072 ∧ (Jvm.Cond.and given_1 narrow_1).before args s = true
def lw_Q (_ : Array Value) (s : State) (o : Outcome) (t : State) : Prop := o = .returned (some (.int 1)) ∧ Framed s o t [] 601024 7293034
def lw_Z (below : List Frame) (a : Array Value) (s : State) : State → Prop := fun t => ∃ o, t.status = .running ∧ Ended t below o ∧ lw_Q a s o t
/-- the law's own end, with 1 on the stack, nothing written that was there before, its room as the claim has it -/
theorem lw_ret {p : Program} {l : Launch} {e : Env} {s : State} {m : MethodId} {below : List Frame} {meth : Method} {c : Code} {b : Nat} (hx : p.tables.exec = Jvm.exec) (hb : c.code = code) (hr : meth.sig.returnType = ret) (hlocks : meth.locks = false) {pc : Nat} {H : Heap} {ls : Array Slot} (hdg : decode code pc = .ok (.ireturn, 1)) : W p l e room_1 s m #[Value.ref b] below meth c H [] 601024 7293034 (lw_Z below #[Value.ref b] s) (F0 m pc ls [.int 1]) := by
  intro T hT X
  obtain ⟨fs, hret, hrun, hended, hW, hframe⟩ := X.leave (v := some (.int 1)) (hlocks := hlocks) (fun h => by rw [hr] at h; cases h)
  have hmeth' : T.vm.method? m = some meth := X.method'
  refine ⟨T.setFrames fs, ?_, .returned (some (.int 1)), hrun, hended, rfl, ⟨_, rfl⟩, hW, hframe⟩
  jvm_step X.here [X.here.top, hx, hb, hdg, hmeth', hr, ret, narrow_b1]
  (try refine ⟨rfl, ?_⟩); (try refine ⟨rfl, ?_⟩)
  first | (intro acts; rw [hret _ acts rfl rfl rfl]) | rw [hret _ _ rfl rfl rfl]
  exact Steps.refl _
/-- what holds at the law's entry: the machine, the code, the tables' words (any of lw_tbl by 'hts w (by decide +kernel)'), the script of L ints xs at the cell b, what the Statement gives of the start (any of its parts by flat_of_before) -/
def lw_At (p : Program) (s : State) (m : MethodId) (meth : Method) (c : Code) (b L : Nat) (xs : Nat → Int32) : Prop :=
  p.tables.exec = Jvm.exec ∧ c.code = code ∧ meth.sig.returnType = ret ∧ c.maxLocals = 7 ∧ s.vm.findClass R_law = some m.cls ∧ (∀ w ∈ lw_tbl, w.before #[Value.ref b] s = true) ∧ va_X b L xs s s.heap ∧ b < s.heap.size ∧ meth.locks = false ∧ (Jvm.Cond.and given_1 narrow_1).before #[Value.ref b] s = true
end
section
/-! numbers: an int of the machine is 'zI z' of an integer z -/
def zI (z : Int) : Int32 := Int32.ofInt z
def zL (z : Int) : Int64 := Int64.ofInt z
def iv (z : Int) : Value := .int (zI z)
def lo (z : Int) : Value := .long (zL z)
def rv (r : Option Nat) : Value := va_rf r
abbrev rng (z : Int) : Prop := -2147483648 ≤ z ∧ z ≤ 2147483647
abbrev rngL (z : Int) : Prop := -9223372036854775808 ≤ z ∧ z ≤ 9223372036854775807
theorem zI_add (a b : Int) : zI a + zI b = zI (a + b) := (Int32.ofInt_add a b).symm
theorem zI_sub (a b : Int) : zI a - zI b = zI (a - b) := (Int32.ofInt_sub a b).symm
theorem zI_mul (a b : Int) : zI a * zI b = zI (a * b) := (Int32.ofInt_mul a b).symm
theorem zI_neg (a : Int) : -zI a = zI (-a) := (Int32.ofInt_neg a).symm
theorem zL_add (a b : Int) : zL a + zL b = zL (a + b) := (Int64.ofInt_add a b).symm
theorem zL_mul (a b : Int) : zL a * zL b = zL (a * b) := (Int64.ofInt_mul a b).symm
theorem zI_int {z : Int} (h : rng z) : (zI z).toInt = z := Int32.toInt_ofInt_of_le (by omega) (by omega)
theorem zL_int {z : Int} (h : rngL z) : (zL z).toInt = z := Int64.toInt_ofInt_of_le (by omega) (by omega)
theorem zI_of (x : Int32) : ∃ z : Int, rng z ∧ x = zI z := ⟨x.toInt, by have h1 := x.le_toInt; have h2 := x.toInt_lt; constructor <;> omega, (Int32.ofInt_toInt x).symm⟩
theorem zI_lt {a b : Int} (ha : rng a) (hb : rng b) : zI a < zI b ↔ a < b := by rw [Int32.lt_iff_toInt_lt, zI_int ha, zI_int hb]
theorem zI_le {a b : Int} (ha : rng a) (hb : rng b) : zI a ≤ zI b ↔ a ≤ b := by rw [Int32.le_iff_toInt_le, zI_int ha, zI_int hb]
theorem zI_eq {a b : Int} (ha : rng a) (hb : rng b) : zI a = zI b ↔ a = b := by rw [← Int32.toInt_inj, zI_int ha, zI_int hb]
theorem zL_lt {a b : Int} (ha : rngL a) (hb : rngL b) : zL a < zL b ↔ a < b := by rw [Int64.lt_iff_toInt_lt, zL_int ha, zL_int hb]
theorem zL_eq {a b : Int} (ha : rngL a) (hb : rngL b) : zL a = zL b ↔ a = b := by rw [← Int64.toInt_inj, zL_int ha, zL_int hb]
theorem zI_div {a b : Int} (ha : rng a) (hb : rng b) : zI a / zI b = zI (a.tdiv b) := by
  unfold zI
  exact (Int32.ofInt_tdiv (by show -2147483648 ≤ a; omega) (by show a ≤ 2147483647; omega) (by show -2147483648 ≤ b; omega) (by show b ≤ 2147483647; omega)).symm
theorem zL_div {a b : Int} (ha : rngL a) (hb : rngL b) : zL a / zL b = zL (a.tdiv b) := by
  unfold zL
  exact (Int64.ofInt_tdiv (by show -9223372036854775808 ≤ a; omega) (by show a ≤ 9223372036854775807; omega) (by show -9223372036854775808 ≤ b; omega) (by show b ≤ 9223372036854775807; omega)).symm
theorem tmod_eq (a b : Int) : a - a.tdiv b * b = a.tmod b := by
  have h := Int.mul_tdiv_add_tmod a b
  rw [Int.mul_comm] at h
  omega
theorem zI_long {a : Int} (ha : rng a) : (zI a).toInt64 = zL a := Int32.toInt64_ofInt (by show -2147483648 ≤ a; omega) (by show a ≤ 2147483647; omega)
theorem zL_i (a : Int) : (zL a).toInt32 = zI a := Int64.toInt32_ofInt
theorem zI_clamp {n : Nat} (h : n < 2 ^ 31) : (zI n).toNatClampNeg = n := by
  show (zI n).toInt.toNat = n
  rw [zI_int (by omega)]
  exact Int.toNat_natCast n
theorem zI_in {z : Int} {n : Nat} (h0 : 0 ≤ z) (h1 : z < n) (hn : n < 2 ^ 31) : vp_in (zI z) n := by
  have e : zI 0 = 0 := by decide
  have hz : rng z := by omega
  rintro (h | h)
  · rw [← e, zI_lt hz (by omega)] at h
    omega
  · have : (zI z).toNatClampNeg = z.toNat := by show (zI z).toInt.toNat = z.toNat; rw [zI_int hz]
    omega
theorem zI_ix {z : Int} (h0 : 0 ≤ z) (h1 : z ≤ 2147483647) : (zI z).toNatClampNeg = z.toNat := by
  show (zI z).toInt.toNat = z.toNat
  rw [zI_int (by omega)]
theorem iv_0 : iv 0 = .int 0 := rfl
end
section
/-! the memory as functions: kind of a cell, int fields, reference fields, arrays; field k of class c is 64 * c + k -/
abbrev Mm : Type := (Nat → Nat) × (Nat → Nat → Int) × (Nat → Nat → Option Nat) × (Nat → Nat) × (Nat → Nat → Int) × (Nat → Nat → Option Nat)
def gK (X : Mm) : Nat → Nat := X.1
def gI (X : Mm) : Nat → Nat → Int := X.2.1
def gP (X : Mm) : Nat → Nat → Option Nat := X.2.2.1
def gN (X : Mm) : Nat → Nat := X.2.2.2.1
def gA (X : Mm) : Nat → Nat → Int := X.2.2.2.2.1
def gO (X : Mm) : Nat → Nat → Option Nat := X.2.2.2.2.2
def u1 {α : Type} (g : Nat → α) (a : Nat) (v : α) : Nat → α := fun x => if x = a then v else g x
def u2 {α : Type} (g : Nat → Nat → α) (f a : Nat) (v : α) : Nat → Nat → α := fun y x => if y = f ∧ x = a then v else g y x
def sI (X : Mm) (f a : Nat) (v : Int) : Mm := (gK X, u2 (gI X) f a v, gP X, gN X, gA X, gO X)
def sP (X : Mm) (f a : Nat) (v : Option Nat) : Mm := (gK X, gI X, u2 (gP X) f a v, gN X, gA X, gO X)
def sA (X : Mm) (a i : Nat) (v : Int) : Mm := (gK X, gI X, gP X, gN X, u2 (gA X) a i v, gO X)
def sO (X : Mm) (a i : Nat) (v : Option Nat) : Mm := (gK X, gI X, gP X, gN X, gA X, u2 (gO X) a i v)
/-- a whole row -/
def sAr (X : Mm) (a : Nat) (f : Nat → Int) : Mm := (gK X, gI X, gP X, gN X, u1 (gA X) a f, gO X)
def sOr (X : Mm) (a : Nat) (f : Nat → Option Nat) : Mm := (gK X, gI X, gP X, gN X, gA X, u1 (gO X) a f)
/-- a new object, of kind t; a new array of n places -/
def alO (X : Mm) (a t : Nat) : Mm := (u1 (gK X) a t, fun f x => if x = a then 0 else gI X f x, fun f x => if x = a then none else gP X f x, gN X, gA X, gO X)
def alA (X : Mm) (a t n : Nat) : Mm := (u1 (gK X) a t, gI X, gP X, u1 (gN X) a n, fun x i => if x = a then 0 else gA X x i, fun x i => if x = a then none else gO X x i)
theorem gI_sI (X : Mm) (f a : Nat) (v : Int) (g x : Nat) : gI (sI X f a v) g x = if g = f ∧ x = a then v else gI X g x := rfl
theorem gI_sP (X : Mm) (f a : Nat) (v : Option Nat) : gI (sP X f a v) = gI X := rfl
theorem gI_sA (X : Mm) (a i : Nat) (v : Int) : gI (sA X a i v) = gI X := rfl
theorem gI_sO (X : Mm) (a i : Nat) (v : Option Nat) : gI (sO X a i v) = gI X := rfl
theorem gP_sP (X : Mm) (f a : Nat) (v : Option Nat) (g x : Nat) : gP (sP X f a v) g x = if g = f ∧ x = a then v else gP X g x := rfl
theorem gP_sI (X : Mm) (f a : Nat) (v : Int) : gP (sI X f a v) = gP X := rfl
theorem gP_sA (X : Mm) (a i : Nat) (v : Int) : gP (sA X a i v) = gP X := rfl
theorem gP_sO (X : Mm) (a i : Nat) (v : Option Nat) : gP (sO X a i v) = gP X := rfl
theorem gA_sA (X : Mm) (a i : Nat) (v : Int) (x j : Nat) : gA (sA X a i v) x j = if x = a ∧ j = i then v else gA X x j := rfl
theorem gA_sI (X : Mm) (f a : Nat) (v : Int) : gA (sI X f a v) = gA X := rfl
theorem gA_sP (X : Mm) (f a : Nat) (v : Option Nat) : gA (sP X f a v) = gA X := rfl
theorem gA_sO (X : Mm) (a i : Nat) (v : Option Nat) : gA (sO X a i v) = gA X := rfl
theorem gO_sO (X : Mm) (a i : Nat) (v : Option Nat) (x j : Nat) : gO (sO X a i v) x j = if x = a ∧ j = i then v else gO X x j := rfl
theorem gO_sI (X : Mm) (f a : Nat) (v : Int) : gO (sI X f a v) = gO X := rfl
theorem gO_sP (X : Mm) (f a : Nat) (v : Option Nat) : gO (sP X f a v) = gO X := rfl
theorem gO_sA (X : Mm) (a i : Nat) (v : Int) : gO (sA X a i v) = gO X := rfl
theorem gK_sI (X : Mm) (f a : Nat) (v : Int) : gK (sI X f a v) = gK X := rfl
theorem gK_sP (X : Mm) (f a : Nat) (v : Option Nat) : gK (sP X f a v) = gK X := rfl
theorem gK_sA (X : Mm) (a i : Nat) (v : Int) : gK (sA X a i v) = gK X := rfl
theorem gK_sO (X : Mm) (a i : Nat) (v : Option Nat) : gK (sO X a i v) = gK X := rfl
theorem gN_sI (X : Mm) (f a : Nat) (v : Int) : gN (sI X f a v) = gN X := rfl
theorem gN_sP (X : Mm) (f a : Nat) (v : Option Nat) : gN (sP X f a v) = gN X := rfl
theorem gN_sA (X : Mm) (a i : Nat) (v : Int) : gN (sA X a i v) = gN X := rfl
theorem gN_sO (X : Mm) (a i : Nat) (v : Option Nat) : gN (sO X a i v) = gN X := rfl
/-- which fields are references, a row a class of vwCl -/
def rTab : List (List Bool) := [[false, true, false], [true, false, false], [false, false, false, false, false], [true, false, false, false, false], [true, false], [true, true, true, true, true, false, false, false, false, false, false, false, false, false], [false, true, false, false, false, false, true, true], [false, false, false, false], [false, false, false, false], [false, true, false, false, true], [true, true, true, true, true, true, false, false, false, false, false], [false, false, false, false, false, false, false, true, true, true, true, true, true, false, true, true, true, false, true, true, true, true, true, true, true, true, true, true, true, true, false, true, true, true, true, true, true, true, true, true, true, true, true, true, true, true, true, true, true, true]]
def nF (c : Nat) : Nat := (rTab.getD c []).length
def isR (c k : Nat) : Bool := (rTab.getD c []).getD k false
def fl (c : Nat) (X : Mm) (a : Nat) : List Value := (List.range (nF c)).map fun k => if isR c k then rv (gP X (64 * c + k) a) else iv (gI X (64 * c + k) a)
def cE (kA : Nat → ClassId) (X : Mm) (a : Nat) : Option va_E :=
  if gK X a = 0 then none
  else if gK X a < 20 then some (.inr (gK X a - 1, fl (gK X a - 1) X a))
  else if gK X a = 20 then some (.inl (kA 0, gN X a, .inl fun i => zI (gA X a i)))
  else if gK X a = 21 then some (.inl (kA 1, gN X a, .inl fun i => zI (gA X a i)))
  else if gK X a = 22 then some (.inl (kA 2, gN X a, .inr (.inl fun i => zL (gA X a i))))
  else some (.inl (kA 3, gN X a, .inr (.inr (.inr (.inr (gO X a))))))
theorem cE_ext {kA : Nat → ClassId} {X Y : Mm} {a : Nat} (h1 : gK Y a = gK X a) (h2 : ∀ f, gI Y f a = gI X f a) (h3 : ∀ f, gP Y f a = gP X f a) (h4 : gN Y a = gN X a) (h5 : ∀ i, gA Y a i = gA X a i) (h6 : ∀ i, gO Y a i = gO X a i) : cE kA Y a = cE kA X a := by
  have hfl : ∀ c, fl c Y a = fl c X a := fun c => by
    unfold fl
    exact List.map_congr_left fun k _ => by rw [h2, h3]
  have e5 : gA Y a = gA X a := funext h5
  have e6 : gO Y a = gO X a := funext h6
  unfold cE
  rw [h1, h4, e5, e6, hfl]
theorem fl_len (c : Nat) (X : Mm) (a : Nat) : (fl c X a).length = nF c := by simp [fl]
theorem fl_get {c k : Nat} (X : Mm) (a : Nat) (hk : k < nF c) : (fl c X a)[k]? = some (if isR c k then rv (gP X (64 * c + k) a) else iv (gI X (64 * c + k) a)) := by
  simp [fl, hk]
theorem fl_sI {c k : Nat} (X : Mm) (a : Nat) (v : Int) (hr : isR c k = false) : fl c (sI X (64 * c + k) a v) a = (fl c X a).set k (iv v) := by
  refine List.ext_getElem? fun j => ?_
  by_cases hj : j < nF c
  · rw [fl_get _ _ hj, List.getElem?_set]
    by_cases e : k = j
    · subst e
      rw [if_pos rfl, if_pos (show k < (fl c X a).length by rw [fl_len]; exact hj)]
      simp [hr, gI_sI]
    · rw [if_neg e, fl_get _ _ hj, gI_sI, gP_sI]
      simp [Ne.symm e]
  · rw [List.getElem?_eq_none (by rw [fl_len]; omega), List.getElem?_eq_none (by rw [List.length_set, fl_len]; omega)]
theorem fl_sP {c k : Nat} (X : Mm) (a : Nat) (v : Option Nat) (hr : isR c k = true) : fl c (sP X (64 * c + k) a v) a = (fl c X a).set k (rv v) := by
  refine List.ext_getElem? fun j => ?_
  by_cases hj : j < nF c
  · rw [fl_get _ _ hj, List.getElem?_set]
    by_cases e : k = j
    · subst e
      rw [if_pos rfl, if_pos (show k < (fl c X a).length by rw [fl_len]; exact hj)]
      simp [hr, gP_sP]
    · rw [if_neg e, fl_get _ _ hj, gP_sP, gI_sP]
      simp [Ne.symm e]
  · rw [List.getElem?_eq_none (by rw [fl_len]; omega), List.getElem?_eq_none (by rw [List.length_set, fl_len]; omega)]
/-- what a method may change: all that came behind the law's start -/
def Ab (b : Nat) : Nat → Prop := fun q => b ≤ q
def wd (D : va_G) (kA : Nat → ClassId) (b : Nat) (X : Mm) (H : Heap) : Prop := ∀ (a : Nat) (E : va_E), cE kA X a = some E → va_at D vwCl (a, E) H ∧ (gK X a = 24 ↔ a < b)
theorem wd.kept {D : va_G} {kA : Nat → ClassId} {b : Nat} {X : Mm} {H H1 : Heap} (h : wd D kA b X H) (hq : ∀ q : Nat, q < H.size → H1[q]? = H[q]?) : wd D kA b X H1 := fun a E hE => ⟨(h a E hE).1.kept (hq a (h a E hE).1.lt), (h a E hE).2⟩
theorem wd.P1 {D : va_G} {kA : Nat → ClassId} {b : Nat} {X : Mm} {H : Heap} {a : Nat} {E : va_E} (h : wd D kA b X H) (he : cE kA X a = some E) : va_P D vwCl [(a, E)] H := by
  intro k q hk
  have hz : k < 1 := (List.getElem?_eq_some_iff.mp hk).1
  rw [show k = 0 by omega] at hk
  cases hk
  exact (h a E he).1
/-- the memory as a list of cells -/
def lsW (kA : Nat → ClassId) (X : Mm) (n : Nat) : va_W := (List.range n).filterMap fun q => if gK X q = 24 then none else (cE kA X q).map fun E => (q, E)
theorem lsW_mem {kA : Nat → ClassId} {X : Mm} {n : Nat} {q : Nat × va_E} (h : q ∈ lsW kA X n) : cE kA X q.1 = some q.2 ∧ gK X q.1 ≠ 24 := by
  obtain ⟨r, -, hr⟩ := List.mem_filterMap.mp h
  split at hr
  · cases hr
  · rename_i hn
    cases hc : cE kA X r with
    | none => rw [hc] at hr; cases hr
    | some E => rw [hc] at hr; cases hr; exact ⟨hc, hn⟩
theorem lsW_of {kA : Nat → ClassId} {X : Mm} {n a : Nat} {E : va_E} (ha : a < n) (h : cE kA X a = some E) (hn : gK X a ≠ 24) : ∃ k : Nat, (lsW kA X n)[k]? = some (a, E) := by
  refine List.getElem?_of_mem (List.mem_filterMap.mpr ⟨a, List.mem_range.mpr ha, ?_⟩)
  rw [if_neg hn, h]
  rfl
theorem lsW_inj (kA : Nat → ClassId) (X : Mm) : ∀ (n i j : Nat) (p q : Nat × va_E), (lsW kA X n)[i]? = some p → (lsW kA X n)[j]? = some q → p.1 = q.1 → i = j := by
  intro n
  induction n with
  | zero => intro i j p q h; simp [lsW] at h
  | succ n ih =>
    have e : lsW kA X (n + 1) = lsW kA X n ++ (if gK X n = 24 then [] else match cE kA X n with | none => [] | some E => [(n, E)]) := by
      unfold lsW
      rw [List.range_succ, List.filterMap_append]
      congr 1
      by_cases hn : gK X n = 24
      · simp [hn]
      · cases hc : cE kA X n <;> simp [hn, hc]
    have low : ∀ (i : Nat) (p : Nat × va_E), (lsW kA X n)[i]? = some p → p.1 < n := fun i p h => by
      obtain ⟨r, h1, hr⟩ := List.mem_filterMap.mp (List.mem_of_getElem? h)
      split at hr
      · cases hr
      · cases hc : cE kA X r with
        | none => rw [hc] at hr; cases hr
        | some E => rw [hc] at hr; cases hr; exact List.mem_range.mp h1
    have last : ∀ (i : Nat) (p : Nat × va_E), (lsW kA X (n + 1))[i]? = some p → (lsW kA X n)[i]? = some p ∨ (i = (lsW kA X n).length ∧ p.1 = n) := by
      intro i p h
      rw [e] at h
      by_cases hl : i < (lsW kA X n).length
      · rw [List.getElem?_append_left hl] at h
        exact Or.inl h
      · rw [List.getElem?_append_right (by omega)] at h
        by_cases hn : gK X n = 24
        · rw [if_pos hn] at h
          simp at h
        · rw [if_neg hn] at h
          cases hc : cE kA X n with
          | none => rw [hc] at h; simp at h
          | some E =>
            rw [hc] at h
            dsimp only at h
            have hz := (List.getElem?_eq_some_iff.mp h).1
            have hz : i - (lsW kA X n).length < 1 := hz
            have hi : i = (lsW kA X n).length := by omega
            rw [hi, Nat.sub_self] at h
            cases h
            exact Or.inr ⟨hi, rfl⟩
    intro i j p q hi hj hpq
    rcases last i p hi with h1 | ⟨h1, h2⟩ <;> rcases last j q hj with h3 | ⟨h3, h4⟩
    · exact ih i j p q h1 h3 hpq
    · have := low i p h1
      omega
    · have := low j q h3
      omega
    · omega
theorem wd.PD {D : va_G} {kA : Nat → ClassId} {b : Nat} {X : Mm} {H : Heap} (h : wd D kA b X H) : va_P D vwCl (lsW kA X H.size) H ∧ va_D (Ab b) (lsW kA X H.size) := by
  refine ⟨fun k q hk => (h q.1 q.2 (lsW_mem (List.mem_of_getElem? hk)).1).1, lsW_inj kA X H.size, fun k q hk => ?_⟩
  obtain ⟨h1, h2⟩ := lsW_mem (List.mem_of_getElem? hk)
  have := (h q.1 q.2 h1).2
  exact Nat.not_lt.mp fun z => h2 (this.mpr z)
theorem wd.at {D : va_G} {kA : Nat → ClassId} {b : Nat} {X : Mm} {H : Heap} {a : Nat} {E : va_E} (h : wd D kA b X H) (he : cE kA X a = some E) (hn : gK X a ≠ 24) : ∃ k : Nat, (lsW kA X H.size)[k]? = some (a, E) := lsW_of (h a E he).1.lt he hn
/-- one cell changes -/
theorem wd.set {D : va_G} {kA : Nat → ClassId} {b : Nat} {X Y : Mm} {H H0 H1 : Heap} {locs locs1 : List Loc} {a k : Nat} {E E1 : va_E} (h : wd D kA b X H) (hb : b ≤ H0.size) (hS : va_S (Ab b) H0 H locs) (hS1 : va_S (Ab b) H0 H1 locs1) (hk : (lsW kA X H.size)[k]? = some (a, E))
    (hP : va_P D vwCl ((lsW kA X H.size).set k (a, E1)) H1) (he : cE kA Y a = some E1) (hKa : gK Y a = gK X a) (hY : ∀ q : Nat, q ≠ a → cE kA Y q = cE kA X q ∧ gK Y q = gK X q) : wd D kA b Y H1 := by
  have hl := (List.getElem?_eq_some_iff.mp hk).1
  obtain ⟨hEa, hna⟩ := lsW_mem (List.mem_of_getElem? hk)
  dsimp only at hEa hna
  intro q F hF
  by_cases e : q = a
  · subst e
    cases he.symm.trans hF
    exact ⟨hP k (q, E1) (List.getElem?_set_self hl), by rw [hKa]; exact (h q E hEa).2⟩
  · obtain ⟨h1, h2⟩ := hY q e
    rw [h1] at hF
    obtain ⟨h3, h4⟩ := h q F hF
    refine ⟨?_, by rw [h2]; exact h4⟩
    by_cases hz : gK X q = 24
    · have hqb : ¬ Ab b q := Nat.not_le.mpr (h4.mp hz)
      have hql : q < H0.size := Nat.lt_of_lt_of_le (h4.mp hz) hb
      exact h3.kept ((hS1.2.1 q hql hqb).trans (hS.2.1 q hql hqb).symm)
    · obtain ⟨j, hj⟩ := lsW_of (n := H.size) h3.lt hF hz
      have hjk : k ≠ j := fun z => by
        subst z
        rw [hk] at hj
        cases hj
        exact e rfl
      exact hP j (q, F) (by rw [List.getElem?_set_ne hjk]; exact hj)
/-- a cell more -/
theorem wd.push {D : va_G} {kA : Nat → ClassId} {b : Nat} {X Y : Mm} {H H0 H1 : Heap} {locs locs1 : List Loc} {a : Nat} {E1 : va_E} (h : wd D kA b X H) (hb : b ≤ H0.size) (hS : va_S (Ab b) H0 H locs) (hS1 : va_S (Ab b) H0 H1 locs1)
    (hP : va_P D vwCl (lsW kA X H.size ++ [(a, E1)]) H1) (hD : va_D (Ab b) (lsW kA X H.size ++ [(a, E1)])) : gK X a = 0 ∧ b ≤ a ∧ (cE kA Y a = some E1 → gK Y a ≠ 24 → (∀ q : Nat, q ≠ a → cE kA Y q = cE kA X q ∧ gK Y q = gK X q) → wd D kA b Y H1) := by
  have hlast : (lsW kA X H.size ++ [(a, E1)])[(lsW kA X H.size).length]? = some (a, E1) := by rw [List.getElem?_append_right (Nat.le_refl _), Nat.sub_self]; rfl
  have hba : b ≤ a := hD.2 _ _ hlast
  have h0 : gK X a = 0 := by
    refine Classical.byContradiction fun hn => ?_
    have : ∃ E, cE kA X a = some E := by
      unfold cE
      rw [if_neg hn]
      repeat' split
      all_goals exact ⟨_, rfl⟩
    obtain ⟨E, hE⟩ := this
    have h24 : gK X a ≠ 24 := fun z => by
      have := (h a E hE).2.mp z
      omega
    obtain ⟨j, hj⟩ := lsW_of (n := H.size) (h a E hE).1.lt hE h24
    have hjl := (List.getElem?_eq_some_iff.mp hj).1
    have := hD.1 j _ (a, E) (a, E1) (by rw [List.getElem?_append_left hjl]; exact hj) hlast rfl
    omega
  refine ⟨h0, hba, fun he hn hY => ?_⟩
  intro q F hF
  by_cases e : q = a
  · subst e
    cases he.symm.trans hF
    exact ⟨hP _ _ hlast, ⟨fun z => absurd z hn, fun z => by omega⟩⟩
  · obtain ⟨h1, h2⟩ := hY q e
    rw [h1] at hF
    obtain ⟨h3, h4⟩ := h q F hF
    refine ⟨?_, by rw [h2]; exact h4⟩
    by_cases hz : gK X q = 24
    · have hqb : ¬ Ab b q := Nat.not_le.mpr (h4.mp hz)
      have hql : q < H0.size := Nat.lt_of_lt_of_le (h4.mp hz) hb
      exact h3.kept ((hS1.2.1 q hql hqb).trans (hS.2.1 q hql hqb).symm)
    · obtain ⟨j, hj⟩ := lsW_of (n := H.size) h3.lt hF hz
      have hjl := (List.getElem?_eq_some_iff.mp hj).1
      exact hP j (q, F) (by rw [List.getElem?_append_left hjl]; exact hj)
theorem cE_obj {kA : Nat → ClassId} {X : Mm} {a c : Nat} (h : gK X a = c + 1) (hc : c < 19) : cE kA X a = some (.inr (c, fl c X a)) := by
  unfold cE
  rw [h, if_neg (by omega), if_pos (by omega), Nat.add_sub_cancel]
theorem cE_20 {kA : Nat → ClassId} {X : Mm} {a : Nat} (h : gK X a = 20) : cE kA X a = some (.inl (kA 0, gN X a, .inl fun i => zI (gA X a i))) := by simp [cE, h]
theorem cE_21 {kA : Nat → ClassId} {X : Mm} {a : Nat} (h : gK X a = 21) : cE kA X a = some (.inl (kA 1, gN X a, .inl fun i => zI (gA X a i))) := by simp [cE, h]
theorem cE_22 {kA : Nat → ClassId} {X : Mm} {a : Nat} (h : gK X a = 22) : cE kA X a = some (.inl (kA 2, gN X a, .inr (.inl fun i => zL (gA X a i)))) := by simp [cE, h]
theorem cE_23 {kA : Nat → ClassId} {X : Mm} {a : Nat} (h : gK X a = 23 ∨ gK X a = 24) : cE kA X a = some (.inl (kA 3, gN X a, .inr (.inr (.inr (.inr (gO X a)))))) := by rcases h with h | h <;> simp [cE, h]
end
section
/-! the walk over the memory: V says that the machine comes to its end from here, in every heap that holds the memory X -/
def TBL : List Cond := lw_tbl.filter goodWord
theorem TBL_sub {w : Cond} (h : w ∈ TBL) : w ∈ lw_tbl := (List.mem_filter.mp h).1
theorem TBL_good {ws : List Cond} (h : ∀ w ∈ ws, w ∈ TBL) : GoodIn TBL ws := fun w hw => ⟨h w hw, good_of_word (List.mem_filter.mp (h w hw)).2⟩
theorem TBL_mk {w : Cond} (i : Nat) (h : lw_tbl[i]? = some w) (g : goodWord w = true) : w ∈ TBL := List.mem_filter.mpr ⟨List.mem_of_getElem? h, g⟩
def tysA (kA : Nat → ClassId) : List (ClassId × FieldType) := [(kA 0, .int), (kA 1, .boolean), (kA 2, .long), (kA 3, .object "java/lang/Object")]
/-- the string constants of the throws -/
def strC : List (String × Nat × String) := [("ChargeYard", 280, "no such firm"), ("ChargeYard", 295, "an argument is out of its range"), ("ChargeYard", 297, "there are as many as there may be"), ("ChargeYard", 291, "no such card"), ("ChargeYard", 287, "no such socket"), ("ChargeYard", 140, "the card is not good, or the socket is booked then"), ("ChargeYard", 289, "no such car"), ("ChargeYard", 293, "no such session"), ("ChargeYard", 177, "it is unplugged"), ("ChargeYard", 212, "there are no minutes above 20000"), ("ChargeYard", 231, "what is out of its range"), ("ChargeYard", 262, "it is not billed, or was disputed")]
/-- words that the tables decide, but that aren't in TBL -/
def declL : List MethodName := [⟨"java/lang/RuntimeException", "<init>", "()V"⟩, ⟨"java/lang/RuntimeException", "<init>", "(Ljava/lang/String;)V"⟩, ⟨"java/lang/Exception", "<init>", "()V"⟩, ⟨"java/lang/Exception", "<init>", "(Ljava/lang/String;)V"⟩, ⟨"java/lang/Throwable", "<init>", "()V"⟩, ⟨"java/lang/Throwable", "<init>", "(Ljava/lang/String;)V"⟩, ⟨"java/lang/Object", "getClass", "()Ljava/lang/Class;"⟩]
def castL : List (String × String) := [("java/lang/IndexOutOfBoundsException", "java/lang/IndexOutOfBoundsException"), ("java/lang/IllegalArgumentException", "java/lang/IllegalArgumentException"), ("java/lang/IllegalStateException", "java/lang/IllegalStateException"), ("[I", "java/lang/Cloneable"), ("ChargeYard", "java/lang/Object"), ("java/util/ArrayList", "java/lang/Object"), ("ChargeYard$Firm", "java/lang/Object"), ("ChargeYard$Tariff", "java/lang/Object"), ("ChargeYardModel", "java/lang/Object"), ("java/lang/IndexOutOfBoundsException", "java/lang/Object"), ("java/lang/IllegalArgumentException", "java/lang/Object"), ("java/lang/IllegalStateException", "java/lang/Object"), ("ChargeYard$Socket", "java/lang/Object"), ("ChargeYard$Car", "java/lang/Object"), ("ChargeYard$Card", "java/lang/Object"), ("ChargeYard$Booking", "java/lang/Object"), ("ChargeYard$Session", "java/lang/Object"), ("ChargeYard$Values", "java/lang/Object"), ("ChargeYard$Tally", "java/lang/Object"), ("java/lang/Throwable", "java/lang/Object"), ("java/lang/String", "java/lang/Object"), ("[Ljava/lang/Object;", "java/lang/Object"), ("[B", "java/lang/Object"), ("[I", "java/lang/Object"), ("[Z", "java/lang/Object"), ("[J", "java/lang/Object")]
def nestL : List (String × Nat × MethodName × String) := [("ChargeYard", 49, ⟨"ChargeYard$Firm", "<init>", "()V"⟩, "ChargeYard"), ("ChargeYard$Values", 24, ⟨"ChargeYard$Tally", "<init>", "()V"⟩, "ChargeYard")]
def NW : List Cond := declL.map .declares ++ (castL.map (fun q => .castable q.1 q.2) ++ nestL.map (fun q => .methodLinkNest q.1 q.2.1 q.2.2.1 q.2.2.2))
theorem NW_warm {s U : State} (hW : s.WarmedH U.vm) (h : ∀ w ∈ NW, va_Nw w s) : ∀ w ∈ NW, va_Nw w U := by
  intro w hw
  have h1 := h w hw
  rcases List.mem_append.mp hw with h2 | h2
  · obtain ⟨x, -, rfl⟩ := List.mem_map.mp h2
    exact va_Nw.warmD hW h1
  · rcases List.mem_append.mp h2 with h2 | h2
    · obtain ⟨x, -, rfl⟩ := List.mem_map.mp h2
      exact va_Nw.warmC hW h1
    · obtain ⟨x, -, rfl⟩ := List.mem_map.mp h2
      exact va_Nw.warmM hW h1
theorem NW_on : ∀ w ∈ NW, w.onTables = true := by
  intro w hw
  rcases List.mem_append.mp hw with h2 | h2
  · obtain ⟨x, -, rfl⟩ := List.mem_map.mp h2
    rfl
  · rcases List.mem_append.mp h2 with h2 | h2
    · obtain ⟨x, -, rfl⟩ := List.mem_map.mp h2
      rfl
    · obtain ⟨x, -, rfl⟩ := List.mem_map.mp h2
      rfl
/-- what the start gives of cells that nobody here changes -/
def FX (b t0 : Nat) (U : State) (H : Heap) : Prop :=
  (vx_Zq Bundle.tN "UNASSIGNED_STACK" Bundle.steD (Ab b) U H ∧ vx_Zq Bundle.tN "SUPPRESSED_SENTINEL" Bundle.listD (Ab b) U H ∧ va_Z "java/util/ArrayList" "DEFAULTCAPACITY_EMPTY_ELEMENTDATA" "[Ljava/lang/Object;" (.ref t0) (Ab b) U H) ∧ (∃ mi, va_Mi "[Ljava/lang/Object;" mi U) ∧ va_Dc U ∧ (∀ q ∈ strC, ∃ sa, vk_R q.1 q.2.1 q.2.2 sa U) ∧ va_Nc "java/lang/IllegalArgumentException" "java/lang/IndexOutOfBoundsException" U ∧ va_Nc "java/lang/IllegalStateException" "java/lang/IndexOutOfBoundsException" U ∧ va_Nc "java/lang/IllegalStateException" "java/lang/IllegalArgumentException" U ∧ (∀ w ∈ NW, va_Nw w U) ∧ va_AO "java/lang/Object" U
theorem FX.warm {b t0 : Nat} {s U : State} {H : Heap} (hW : s.WarmedH U.vm) (h : FX b t0 s H) : FX b t0 U H := by
  obtain ⟨⟨h1, h2, h3⟩, ⟨mi, h4⟩, h5, h6, h7, h8, h9, h10, h11⟩ := h
  exact ⟨⟨h1.moved hW.alike, h2.moved hW.alike, h3.moved hW.alike⟩, ⟨mi, h4.moved hW.alike⟩, h5.moved hW.alike, fun q hq => by obtain ⟨sa, h⟩ := h6 q hq; exact ⟨sa, h.warm hW⟩, h7.moved hW.alike, h8.moved hW.alike, h9.moved hW.alike, NW_warm hW h10, h11.moved hW.alike⟩
theorem FX.calling {b t0 : Nat} {U : State} {H : Heap} (g : JFrame) (mk : MethodId) (a : Array Value) (h : FX b t0 U H) : FX b t0 (U.calling g mk a) H := by
  obtain ⟨⟨h1, h2, h3⟩, ⟨mi, h4⟩, h5, h6, h7, h8, h9, h10, h11⟩ := h
  have r : U.vm.Alike (U.calling g mk a).vm := Vm.Alike.refl U.vm
  exact ⟨⟨h1.moved r, h2.moved r, h3.moved r⟩, ⟨mi, h4.moved r⟩, h5.moved r, fun q hq => by obtain ⟨sa, h⟩ := h6 q hq; exact ⟨sa, vk_R.same rfl h⟩, h7.moved r, h8.moved r, h9.moved r, fun w hw => va_Nw.same (u := U) (U := U.calling g mk a) (NW_on w hw) rfl (h10 w hw), h11.moved r⟩
theorem FX.kept {b t0 : Nat} {U : State} {H H1 : Heap} (h : FX b t0 U H) (hq : ∀ a : Nat, a < H.size → ¬ Ab b a → H1[a]? = H[a]?) : FX b t0 U H1 := by
  obtain ⟨⟨h1, h2, h3⟩, h4⟩ := h
  exact ⟨⟨h1.kept hq, h2.kept hq, h3.kept hq⟩, h4⟩
/-- a method's start -/
def Pw (D : va_G) (kA : Nat → ClassId) (b t0 : Nat) (X : Mm) (U : State) : Prop := wd D kA b X U.heap ∧ va_K D vwCl (tysA kA) U ∧ FX b t0 U U.heap ∧ b ≤ U.heap.size
/-- its end, and its end by an exception of the class E -/
def Qk (D : va_G) (kA : Nat → ClassId) (b : Nat) (post : Option Value → Mm → Prop) : Array Value → State → Outcome → State → Prop := fun _ st o t => (∃ (v : Option Value) (Y : Mm), o = .returned v ∧ post v Y ∧ wd D kA b Y t.heap) ∧ va_F (Ab b) st t
def Xk (D : va_G) (kA : Nat → ClassId) (b : Nat) (px : String → Mm → Prop) : String → State → State → Prop := fun E st t => (∃ Y : Mm, px E Y ∧ wd D kA b Y t.heap) ∧ va_F (Ab b) st t
/-- the contract of the method y (code cc, n locals, answer of type ret), in the memory X with the arguments av: at most mc cells of ms slots are made, post holds of answer and memory, or px of the exception's class and the memory -/
def Ct (l : Launch) (D : va_G) (kA : Nat → ClassId) (b t0 : Nat) (y : MethodName) (cc : ByteArray) (n : Nat) (ret : Option FieldType) (fr lc : Nat) (av : List Value) (X : Mm) (mc ms : Nat) (post : Option Value → Mm → Prop) (px : String → Mm → Prop) : Prop :=
  vx_Met l y (.code y cc n ret :: TBL) { frames := fr, cells := mc, slots := ms, locals := lc } (va_Pc av (Pw D kA b t0 X)) (Qk D kA b post) (Xk D kA b px) mc ms (Ab b)
/-- the locals -/
def lvO (ls : Array Slot) (nL : Nat) (lv : List (Option Value)) : Prop := ls.size = nL ∧ lv_wf ls ∧ ∀ (i : Nat) (v : Value), lv[i]? = some (some v) → ls[i]? = some (.val v)
def asc (lv : List (Option Value)) : List (Nat × Value) := lv.zipIdx.filterMap fun q => q.1.map fun v => (q.2, v)
theorem asc_mem {lv : List (Option Value)} {i : Nat} {v : Value} : (i, v) ∈ asc lv ↔ lv[i]? = some (some v) := by
  unfold asc
  rw [List.mem_filterMap]
  constructor
  · rintro ⟨⟨o, j⟩, hm, h⟩
    have := List.mem_zipIdx_iff_getElem?.mp hm
    cases o with
    | none => cases h
    | some w => cases h; exact this
  · intro h
    exact ⟨(some v, i), List.mem_zipIdx_iff_getElem?.mpr h, rfl⟩
theorem lvO.has {ls : Array Slot} {nL : Nat} {lv : List (Option Value)} (h : lvO ls nL lv) : lv_has ls nL (asc lv) := ⟨h.1, h.2.1, fun q hq => h.2.2 q.1 q.2 (asc_mem.mp hq)⟩
def okS (lv : List (Option Value)) (i : Nat) : Bool := match i with
  | 0 => true
  | j + 1 => match lv[j]? with
    | some (some v) => !(v.category == 2)
    | _ => true
theorem lvO_st {ls : Array Slot} {nL i : Nat} {w : Value} {lv : List (Option Value)} (h : lv_has ls nL ((i, w) :: (asc lv).filter (fun q => !(q.1 == i) && !(q.1 + 1 == i && q.2.category == 2)))) (hk : okS lv i = true) : lvO ls nL (lv.set i (some w)) := by
  refine ⟨h.1, h.2.1, fun j v hj => ?_⟩
  rw [List.getElem?_set] at hj
  by_cases e : i = j
  · subst e
    rw [if_pos rfl] at hj
    split at hj
    · cases hj
      exact h.2.2 (i, w) List.mem_cons_self
    · cases hj
  · rw [if_neg e] at hj
    refine h.2.2 (j, v) (List.mem_cons_of_mem _ (List.mem_filter.mpr ⟨asc_mem.mpr hj, ?_⟩))
    have h1 : (j == i) = false := by simp; omega
    rw [h1]
    by_cases e2 : j + 1 = i
    · subst e2
      simp only [okS, hj] at hk
      simp only [beq_self_eq_true, Bool.true_and, Bool.not_false]
      exact hk
    · have h2 : (j + 1 == i) = false := by simp; omega
      rw [h2]
      rfl
theorem lvO_st2 {ls : Array Slot} {nL i : Nat} {w : Value} {lv : List (Option Value)} (h : lv_has ls nL ((i, w) :: (asc lv).filter (fun q => !(q.1 == i) && (!(q.1 == i + 1) && !(q.1 + 1 == i && q.2.category == 2))))) (hk : okS lv i = true) : lvO ls nL ((lv.set i (some w)).set (i + 1) none) := by
  refine ⟨h.1, h.2.1, fun j v hj => ?_⟩
  rw [List.getElem?_set] at hj
  by_cases e0 : i + 1 = j
  · subst e0
    rw [if_pos rfl] at hj
    split at hj <;> cases hj
  rw [if_neg e0, List.getElem?_set] at hj
  by_cases e : i = j
  · subst e
    rw [if_pos rfl] at hj
    split at hj
    · cases hj
      exact h.2.2 (i, w) List.mem_cons_self
    · cases hj
  · rw [if_neg e] at hj
    refine h.2.2 (j, v) (List.mem_cons_of_mem _ (List.mem_filter.mpr ⟨asc_mem.mpr hj, ?_⟩))
    have h1 : (j == i) = false := by simp; omega
    have h3 : (j == i + 1) = false := by simp; omega
    rw [h1, h3]
    by_cases e2 : j + 1 = i
    · subst e2
      simp only [okS, hj] at hk
      simp only [beq_self_eq_true, Bool.true_and, Bool.not_false]
      exact hk
    · have h2 : (j + 1 == i) = false := by simp; omega
      rw [h2]
      rfl
theorem lv_args_mem : ∀ (vs : List Value) (o j : Nat) (v : Value), (∀ v ∈ vs, v.category = 1) → vs[j]? = some v → (o + j, v) ∈ lv_args o vs
  | [], _, _, _, _, h => by simp at h
  | w :: vs, o, 0, v, hc, h => by
    simp at h
    subst h
    simp [lv_args]
  | w :: vs, o, j + 1, v, hc, h => by
    rw [List.getElem?_cons_succ] at h
    have h2 := lv_args_mem vs (o + 1) j v (fun x hx => hc x (List.mem_cons_of_mem _ hx)) h
    have hw := hc w List.mem_cons_self
    rw [show o + (j + 1) = o + 1 + j by omega]
    simp [lv_args, hw, h2]
/-- a decoded instruction, its length, the place behind it; with a target -/
def DI (cc : ByteArray) (pc : Nat) (i : Instr) (n pc' : Nat) : Prop := decode cc pc = .ok (i, n) ∧ pc + n = pc'
def DB (cc : ByteArray) (pc : Nat) (i : Instr) (off : Int) (n pc' tgt : Nat) : Prop := decode cc pc = .ok (i, n) ∧ pc + n = pc' ∧ (pc : Int) + off = (tgt : Int)
section VS
variable {p : Program} {l : Launch} {e : Env} {R : Room} {s : State} {m : MethodId} {args : Array Value} {below : List Frame} {meth : Method} {c : Code}
variable {D : va_G} {kA : Nat → ClassId} {b t0 nL cells slots : Nat} {Q : State → Prop} {own nm : String} {cc : ByteArray} {X : Mm} {pc pc' tgt : Nat} {lv : List (Option Value)} {st : List Value}
/-- what a method knows of itself -/
def Cx (p : Program) (l : Launch) (s : State) (m : MethodId) (args : Array Value) (meth : Method) (c : Code) (D : va_G) (kA : Nat → ClassId) (b t0 nL : Nat) (own nm : String) (cc : ByteArray) : Prop :=
  p.tables.exec = Jvm.exec ∧ c.code = cc ∧ c.maxLocals = nL ∧ s.vm.findClass own = some m.cls ∧ (∀ w ∈ TBL, w.before args s = true) ∧ meth.locks = false ∧ va_K D vwCl (tysA kA) s ∧ FX b t0 s s.heap ∧ l.stackTraces = false ∧ b ≤ s.heap.size ∧ meth.name = nm
def V (p : Program) (l : Launch) (e : Env) (R : Room) (s : State) (m : MethodId) (args : Array Value) (below : List Frame) (meth : Method) (c : Code) (D : va_G) (kA : Nat → ClassId) (b nL cells slots : Nat) (Q : State → Prop) (X : Mm) (pc : Nat) (lv : List (Option Value)) (st : List Value) : Prop :=
  ∀ (H : Heap) (locs : List Loc) (ls : Array Slot), wd D kA b X H → va_S (Ab b) s.heap H locs → lvO ls nL lv → W p l e R s m args below meth c H locs cells slots Q (F0 m pc ls st)
/-- .. with an exception of the class E under way -/
def VX (p : Program) (l : Launch) (e : Env) (R : Room) (s : State) (m : MethodId) (args : Array Value) (below : List Frame) (meth : Method) (c : Code) (D : va_G) (kA : Nat → ClassId) (b nL cells slots : Nat) (Q : State → Prop) (X : Mm) (pc : Nat) (lv : List (Option Value)) (E : String) : Prop :=
  ∀ (H : Heap) (locs : List Loc) (ls : Array Slot) (rest : List Value) (q : Addr) (ce : Cell), wd D kA b X H → va_S (Ab b) s.heap H locs → lvO ls nL lv → H[q]? = some ce → ce.vm = .none → s.vm.findClass E = some ce.cls → vx_W p l e R s m args below meth c H locs cells slots Q (F0 m pc ls rest) q

theorem V_iconst (C : Cx p l s m args meth c D kA b t0 nL own nm cc) {n : Int} (d : DI cc pc (.iconst n) 1 pc') 
    (k : V p l e R s m args below meth c D kA b nL (cells) (slots) (Q) X (pc') (lv) (iv n :: st)) : V p l e R s m args below meth c D kA b nL (cells) (slots) (Q) X (pc) (lv) (st) := by
  obtain ⟨hx, hb, hml, hown, hts, hlk, hK, hF, hst, hbs, hnm⟩ := C
  obtain ⟨d, rfl⟩ := d
  intro H locs ls hW hS hl
  have k2 := k H locs ls hW hS hl
  exact lv_iconst hx hb d rfl k2
theorem V_bipush (C : Cx p l s m args meth c D kA b t0 nL own nm cc) {n : Int} (d : DI cc pc (.bipush n) 2 pc') (hv : (Int8.ofInt n).toInt32 = zI n)
    (k : V p l e R s m args below meth c D kA b nL (cells) (slots) (Q) X (pc') (lv) (iv n :: st)) : V p l e R s m args below meth c D kA b nL (cells) (slots) (Q) X (pc) (lv) (st) := by
  obtain ⟨hx, hb, hml, hown, hts, hlk, hK, hF, hst, hbs, hnm⟩ := C
  obtain ⟨d, rfl⟩ := d
  intro H locs ls hW hS hl
  have k2 := k H locs ls hW hS hl
  exact lv_bipush hx hb d hv k2
theorem V_sipush (C : Cx p l s m args meth c D kA b t0 nL own nm cc) {n : Int} (d : DI cc pc (.sipush n) 3 pc') (hv : (Int16.ofInt n).toInt32 = zI n)
    (k : V p l e R s m args below meth c D kA b nL (cells) (slots) (Q) X (pc') (lv) (iv n :: st)) : V p l e R s m args below meth c D kA b nL (cells) (slots) (Q) X (pc) (lv) (st) := by
  obtain ⟨hx, hb, hml, hown, hts, hlk, hK, hF, hst, hbs, hnm⟩ := C
  obtain ⟨d, rfl⟩ := d
  intro H locs ls hW hS hl
  have k2 := k H locs ls hW hS hl
  exact lv_sipush hx hb d hv k2
theorem V_ldc (C : Cx p l s m args meth c D kA b t0 nL own nm cc) {i : Nat} {n : Int} (d : DI cc pc (.ldc i) 2 pc') (hw : Cond.constant own i (zI n) ∈ TBL)
    (k : V p l e R s m args below meth c D kA b nL (cells) (slots) (Q) X (pc') (lv) (iv n :: st)) : V p l e R s m args below meth c D kA b nL (cells) (slots) (Q) X (pc) (lv) (st) := by
  obtain ⟨hx, hb, hml, hown, hts, hlk, hK, hF, hst, hbs, hnm⟩ := C
  obtain ⟨d, rfl⟩ := d
  intro H locs ls hW hS hl
  have k2 := k H locs ls hW hS hl
  exact lv_ldc hx hb hown (hts _ hw) d k2
theorem V_ldcw (C : Cx p l s m args meth c D kA b t0 nL own nm cc) {i : Nat} {n : Int} (d : DI cc pc (.ldc_w i) 3 pc') (hw : Cond.constant own i (zI n) ∈ TBL)
    (k : V p l e R s m args below meth c D kA b nL (cells) (slots) (Q) X (pc') (lv) (iv n :: st)) : V p l e R s m args below meth c D kA b nL (cells) (slots) (Q) X (pc) (lv) (st) := by
  obtain ⟨hx, hb, hml, hown, hts, hlk, hK, hF, hst, hbs, hnm⟩ := C
  obtain ⟨d, rfl⟩ := d
  intro H locs ls hW hS hl
  have k2 := k H locs ls hW hS hl
  exact lv_ldcw hx hb hown (hts _ hw) d k2
theorem V_ldc2 (C : Cx p l s m args meth c D kA b t0 nL own nm cc) {i : Nat} {n : Int} (d : DI cc pc (.ldc2_w i) 3 pc') (hw : Cond.constantLong own i (zL n) ∈ TBL)
    (k : V p l e R s m args below meth c D kA b nL (cells) (slots) (Q) X (pc') (lv) (lo n :: st)) : V p l e R s m args below meth c D kA b nL (cells) (slots) (Q) X (pc) (lv) (st) := by
  obtain ⟨hx, hb, hml, hown, hts, hlk, hK, hF, hst, hbs, hnm⟩ := C
  obtain ⟨d, rfl⟩ := d
  intro H locs ls hW hS hl
  have k2 := k H locs ls hW hS hl
  exact lv_ldc2 hx hb hown (hts _ hw) d k2
theorem V_lconst (C : Cx p l s m args meth c D kA b t0 nL own nm cc) {n : Fin 2} {z : Int} (d : DI cc pc (.lconst n) 1 pc') (hv : Int64.ofNat (n : Nat) = zL z)
    (k : V p l e R s m args below meth c D kA b nL (cells) (slots) (Q) X (pc') (lv) (lo z :: st)) : V p l e R s m args below meth c D kA b nL (cells) (slots) (Q) X (pc) (lv) (st) := by
  obtain ⟨hx, hb, hml, hown, hts, hlk, hK, hF, hst, hbs, hnm⟩ := C
  obtain ⟨d, rfl⟩ := d
  intro H locs ls hW hS hl
  have k2 := k H locs ls hW hS hl
  exact lv_lconst hx hb d hv k2
theorem V_null (C : Cx p l s m args meth c D kA b t0 nL own nm cc)  (d : DI cc pc (.aconst_null) 1 pc') 
    (k : V p l e R s m args below meth c D kA b nL (cells) (slots) (Q) X (pc') (lv) (rv none :: st)) : V p l e R s m args below meth c D kA b nL (cells) (slots) (Q) X (pc) (lv) (st) := by
  obtain ⟨hx, hb, hml, hown, hts, hlk, hK, hF, hst, hbs, hnm⟩ := C
  obtain ⟨d, rfl⟩ := d
  intro H locs ls hW hS hl
  have k2 := k H locs ls hW hS hl
  exact lv_null hx hb d k2
theorem V_iload (C : Cx p l s m args meth c D kA b t0 nL own nm cc) {i : Nat} {z : Int} (d : DI cc pc (.iload i) 2 pc') (h : lv[(i : Nat)]? = some (some (iv z)))
    (k : V p l e R s m args below meth c D kA b nL (cells) (slots) (Q) X (pc') (lv) (iv z :: st)) : V p l e R s m args below meth c D kA b nL (cells) (slots) (Q) X (pc) (lv) (st) := by
  obtain ⟨hx, hb, hml, hown, hts, hlk, hK, hF, hst, hbs, hnm⟩ := C
  obtain ⟨d, rfl⟩ := d
  intro H locs ls hW hS hl
  have k2 := k H locs ls hW hS hl
  exact lv_iload hx hb d (hl.2.2 _ _ h) k2
theorem V_iload_n (C : Cx p l s m args meth c D kA b t0 nL own nm cc) {i : Fin 4} {z : Int} (d : DI cc pc (.iload_n i) 1 pc') (h : lv[(i : Nat)]? = some (some (iv z)))
    (k : V p l e R s m args below meth c D kA b nL (cells) (slots) (Q) X (pc') (lv) (iv z :: st)) : V p l e R s m args below meth c D kA b nL (cells) (slots) (Q) X (pc) (lv) (st) := by
  obtain ⟨hx, hb, hml, hown, hts, hlk, hK, hF, hst, hbs, hnm⟩ := C
  obtain ⟨d, rfl⟩ := d
  intro H locs ls hW hS hl
  have k2 := k H locs ls hW hS hl
  exact lv_iload_n hx hb d rfl (hl.2.2 _ _ h) k2
theorem V_lload (C : Cx p l s m args meth c D kA b t0 nL own nm cc) {i : Nat} {z : Int} (d : DI cc pc (.lload i) 2 pc') (h : lv[(i : Nat)]? = some (some (lo z)))
    (k : V p l e R s m args below meth c D kA b nL (cells) (slots) (Q) X (pc') (lv) (lo z :: st)) : V p l e R s m args below meth c D kA b nL (cells) (slots) (Q) X (pc) (lv) (st) := by
  obtain ⟨hx, hb, hml, hown, hts, hlk, hK, hF, hst, hbs, hnm⟩ := C
  obtain ⟨d, rfl⟩ := d
  intro H locs ls hW hS hl
  have k2 := k H locs ls hW hS hl
  exact lv_lload hx hb d (hl.2.2 _ _ h) k2
theorem V_lload_n (C : Cx p l s m args meth c D kA b t0 nL own nm cc) {i : Fin 4} {z : Int} (d : DI cc pc (.lload_n i) 1 pc') (h : lv[(i : Nat)]? = some (some (lo z)))
    (k : V p l e R s m args below meth c D kA b nL (cells) (slots) (Q) X (pc') (lv) (lo z :: st)) : V p l e R s m args below meth c D kA b nL (cells) (slots) (Q) X (pc) (lv) (st) := by
  obtain ⟨hx, hb, hml, hown, hts, hlk, hK, hF, hst, hbs, hnm⟩ := C
  obtain ⟨d, rfl⟩ := d
  intro H locs ls hW hS hl
  have k2 := k H locs ls hW hS hl
  exact lv_lload_n hx hb d rfl (hl.2.2 _ _ h) k2
theorem V_aload (C : Cx p l s m args meth c D kA b t0 nL own nm cc) {i : Nat} {r : Option Nat} (d : DI cc pc (.aload i) 2 pc') (h : lv[i]? = some (some (rv r)))
    (k : V p l e R s m args below meth c D kA b nL (cells) (slots) (Q) X (pc') (lv) (rv r :: st)) : V p l e R s m args below meth c D kA b nL (cells) (slots) (Q) X (pc) (lv) (st) := by
  obtain ⟨hx, hb, hml, hown, hts, hlk, hK, hF, hst, hbs, hnm⟩ := C
  obtain ⟨d, rfl⟩ := d
  intro H locs ls hW hS hl
  have k2 := k H locs ls hW hS hl
  cases r with
  | none => exact lv_aloadN hx hb d (hl.2.2 _ _ h) k2
  | some x => exact lv_aload hx hb d (hl.2.2 _ _ h) k2
theorem V_aload_n (C : Cx p l s m args meth c D kA b t0 nL own nm cc) {i : Fin 4} {r : Option Nat} (d : DI cc pc (.aload_n i) 1 pc') (h : lv[(i : Nat)]? = some (some (rv r)))
    (k : V p l e R s m args below meth c D kA b nL (cells) (slots) (Q) X (pc') (lv) (rv r :: st)) : V p l e R s m args below meth c D kA b nL (cells) (slots) (Q) X (pc) (lv) (st) := by
  obtain ⟨hx, hb, hml, hown, hts, hlk, hK, hF, hst, hbs, hnm⟩ := C
  obtain ⟨d, rfl⟩ := d
  intro H locs ls hW hS hl
  have k2 := k H locs ls hW hS hl
  cases r with
  | none => exact lv_aload_nN hx hb d rfl (hl.2.2 _ _ h) k2
  | some x => exact lv_aload_n hx hb d rfl (hl.2.2 _ _ h) k2
theorem V_istore (C : Cx p l s m args meth c D kA b t0 nL own nm cc) {i : Nat} {z : Int} (d : DI cc pc (.istore i) 2 pc') (hn : i < nL) (hk : okS lv i = true)
    (k : V p l e R s m args below meth c D kA b nL (cells) (slots) (Q) X (pc') ((lv.set i (some (iv z)))) (st)) : V p l e R s m args below meth c D kA b nL (cells) (slots) (Q) X (pc) (lv) (iv z :: st) := by
  obtain ⟨hx, hb, hml, hown, hts, hlk, hK, hF, hst, hbs, hnm⟩ := C
  obtain ⟨d, rfl⟩ := d
  intro H locs ls hW hS hl
  exact lv_istore hx hb d hl.has hn rfl (fun ls2 hl2 => k H locs ls2 hW hS (lvO_st hl2 hk))
theorem V_istore_n (C : Cx p l s m args meth c D kA b t0 nL own nm cc) {i : Fin 4} {z : Int} (d : DI cc pc (.istore_n i) 1 pc') (hn : (i : Nat) < nL) (hk : okS lv (i : Nat) = true)
    (k : V p l e R s m args below meth c D kA b nL (cells) (slots) (Q) X (pc') ((lv.set (i : Nat) (some (iv z)))) (st)) : V p l e R s m args below meth c D kA b nL (cells) (slots) (Q) X (pc) (lv) (iv z :: st) := by
  obtain ⟨hx, hb, hml, hown, hts, hlk, hK, hF, hst, hbs, hnm⟩ := C
  obtain ⟨d, rfl⟩ := d
  intro H locs ls hW hS hl
  exact lv_istore_n hx hb d rfl hl.has hn rfl (fun ls2 hl2 => k H locs ls2 hW hS (lvO_st hl2 hk))
theorem V_astore (C : Cx p l s m args meth c D kA b t0 nL own nm cc) {i a : Nat} (d : DI cc pc (.astore i) 2 pc') (hn : i < nL) (hk : okS lv i = true)
    (k : V p l e R s m args below meth c D kA b nL (cells) (slots) (Q) X (pc') ((lv.set i (some (rv (some a))))) (st)) : V p l e R s m args below meth c D kA b nL (cells) (slots) (Q) X (pc) (lv) (rv (some a) :: st) := by
  obtain ⟨hx, hb, hml, hown, hts, hlk, hK, hF, hst, hbs, hnm⟩ := C
  obtain ⟨d, rfl⟩ := d
  intro H locs ls hW hS hl
  exact lv_astore hx hb d hl.has hn rfl (fun ls2 hl2 => k H locs ls2 hW hS (lvO_st hl2 hk))
theorem V_astore_n (C : Cx p l s m args meth c D kA b t0 nL own nm cc) {i : Fin 4} {a : Nat} (d : DI cc pc (.astore_n i) 1 pc') (hn : (i : Nat) < nL) (hk : okS lv (i : Nat) = true)
    (k : V p l e R s m args below meth c D kA b nL (cells) (slots) (Q) X (pc') ((lv.set (i : Nat) (some (rv (some a))))) (st)) : V p l e R s m args below meth c D kA b nL (cells) (slots) (Q) X (pc) (lv) (rv (some a) :: st) := by
  obtain ⟨hx, hb, hml, hown, hts, hlk, hK, hF, hst, hbs, hnm⟩ := C
  obtain ⟨d, rfl⟩ := d
  intro H locs ls hW hS hl
  exact lv_astore_n hx hb d rfl hl.has hn rfl (fun ls2 hl2 => k H locs ls2 hW hS (lvO_st hl2 hk))
theorem V_lstore (C : Cx p l s m args meth c D kA b t0 nL own nm cc) {i : Nat} {z : Int} (d : DI cc pc (.lstore i) 2 pc') (hn : i + 1 < nL) (hk : okS lv i = true)
    (k : V p l e R s m args below meth c D kA b nL (cells) (slots) (Q) X (pc') ((lv.set i (some (lo z))).set (i + 1) none) (st)) : V p l e R s m args below meth c D kA b nL (cells) (slots) (Q) X (pc) (lv) (lo z :: st) := by
  obtain ⟨hx, hb, hml, hown, hts, hlk, hK, hF, hst, hbs, hnm⟩ := C
  obtain ⟨d, rfl⟩ := d
  intro H locs ls hW hS hl
  exact lv_lstore hx hb d hl.has hn rfl (fun ls2 hl2 => k H locs ls2 hW hS (lvO_st2 hl2 hk))
theorem V_lstore_n (C : Cx p l s m args meth c D kA b t0 nL own nm cc) {i : Fin 4} {z : Int} (d : DI cc pc (.lstore_n i) 1 pc') (hn : (i : Nat) + 1 < nL) (hk : okS lv (i : Nat) = true)
    (k : V p l e R s m args below meth c D kA b nL (cells) (slots) (Q) X (pc') ((lv.set (i : Nat) (some (lo z))).set ((i : Nat) + 1) none) (st)) : V p l e R s m args below meth c D kA b nL (cells) (slots) (Q) X (pc) (lv) (lo z :: st) := by
  obtain ⟨hx, hb, hml, hown, hts, hlk, hK, hF, hst, hbs, hnm⟩ := C
  obtain ⟨d, rfl⟩ := d
  intro H locs ls hW hS hl
  exact lv_lstore_n hx hb d rfl hl.has hn rfl (fun ls2 hl2 => k H locs ls2 hW hS (lvO_st2 hl2 hk))
theorem V_iinc (C : Cx p l s m args meth c D kA b t0 nL own nm cc) {i : Nat} {n z : Int} (d : DI cc pc (.iinc i n) 3 pc') (hn : i < nL) (h : lv[i]? = some (some (iv z))) (hk : okS lv i = true)
    (k : V p l e R s m args below meth c D kA b nL (cells) (slots) (Q) X (pc') (lv.set i (some (iv (z + n)))) (st)) : V p l e R s m args below meth c D kA b nL (cells) (slots) (Q) X (pc) (lv) (st) := by
  obtain ⟨hx, hb, hml, hown, hts, hlk, hK, hF, hst, hbs, hnm⟩ := C
  obtain ⟨d, rfl⟩ := d
  intro H locs ls hW hS hl
  obtain ⟨j, hj⟩ := List.getElem?_of_mem (asc_mem.mpr h)
  exact lv_iinc hx hb d hl.has hj (v := zI (z + n)) (zI_add z n) hn rfl (fun ls2 hl2 => k H locs ls2 hW hS (lvO_st hl2 hk))
theorem V_pop (C : Cx p l s m args meth c D kA b t0 nL own nm cc) {v : Value} (d : DI cc pc (.pop) 1 pc') (hv : v.category = 1)
    (k : V p l e R s m args below meth c D kA b nL (cells) (slots) (Q) X (pc') (lv) (st)) : V p l e R s m args below meth c D kA b nL (cells) (slots) (Q) X (pc) (lv) (v :: st) := by
  obtain ⟨hx, hb, hml, hown, hts, hlk, hK, hF, hst, hbs, hnm⟩ := C
  obtain ⟨d, rfl⟩ := d
  intro H locs ls hW hS hl
  have k2 := k H locs ls hW hS hl
  exact lv_pop hx hb d hv k2
theorem V_dup (C : Cx p l s m args meth c D kA b t0 nL own nm cc) {v : Value} (d : DI cc pc (.dup) 1 pc') (hv : v.category = 1)
    (k : V p l e R s m args below meth c D kA b nL (cells) (slots) (Q) X (pc') (lv) (v :: v :: st)) : V p l e R s m args below meth c D kA b nL (cells) (slots) (Q) X (pc) (lv) (v :: st) := by
  obtain ⟨hx, hb, hml, hown, hts, hlk, hK, hF, hst, hbs, hnm⟩ := C
  obtain ⟨d, rfl⟩ := d
  intro H locs ls hW hS hl
  have k2 := k H locs ls hW hS hl
  exact lv_dup hx hb d hv k2
theorem V_dup_x1 (C : Cx p l s m args meth c D kA b t0 nL own nm cc) {v w : Value} (d : DI cc pc (.dup_x1) 1 pc') (hv : v.category = 1) (hw : w.category = 1)
    (k : V p l e R s m args below meth c D kA b nL (cells) (slots) (Q) X (pc') (lv) (v :: w :: v :: st)) : V p l e R s m args below meth c D kA b nL (cells) (slots) (Q) X (pc) (lv) (v :: w :: st) := by
  obtain ⟨hx, hb, hml, hown, hts, hlk, hK, hF, hst, hbs, hnm⟩ := C
  obtain ⟨d, rfl⟩ := d
  intro H locs ls hW hS hl
  have k2 := k H locs ls hW hS hl
  exact lv_dup_x1 hx hb d hv hw k2
theorem V_dup2 (C : Cx p l s m args meth c D kA b t0 nL own nm cc) {v w : Value} (d : DI cc pc (.dup2) 1 pc') (hv : v.category = 1) (hw : w.category = 1)
    (k : V p l e R s m args below meth c D kA b nL (cells) (slots) (Q) X (pc') (lv) (v :: w :: v :: w :: st)) : V p l e R s m args below meth c D kA b nL (cells) (slots) (Q) X (pc) (lv) (v :: w :: st) := by
  obtain ⟨hx, hb, hml, hown, hts, hlk, hK, hF, hst, hbs, hnm⟩ := C
  obtain ⟨d, rfl⟩ := d
  intro H locs ls hW hS hl
  have k2 := k H locs ls hW hS hl
  exact lv_dup2_11 hx hb d hv hw k2
theorem V_iadd (C : Cx p l s m args meth c D kA b t0 nL own nm cc) {x y : Int} (d : DI cc pc (.iadd) 1 pc') 
    (k : V p l e R s m args below meth c D kA b nL (cells) (slots) (Q) X (pc') (lv) (iv (x + y) :: st)) : V p l e R s m args below meth c D kA b nL (cells) (slots) (Q) X (pc) (lv) (iv y :: iv x :: st) := by
  obtain ⟨hx, hb, hml, hown, hts, hlk, hK, hF, hst, hbs, hnm⟩ := C
  obtain ⟨d, rfl⟩ := d
  intro H locs ls hW hS hl
  have k2 := k H locs ls hW hS hl
  exact lv_iadd hx hb d (by rw [zI_add]; exact k2)
theorem V_isub (C : Cx p l s m args meth c D kA b t0 nL own nm cc) {x y : Int} (d : DI cc pc (.isub) 1 pc') 
    (k : V p l e R s m args below meth c D kA b nL (cells) (slots) (Q) X (pc') (lv) (iv (x - y) :: st)) : V p l e R s m args below meth c D kA b nL (cells) (slots) (Q) X (pc) (lv) (iv y :: iv x :: st) := by
  obtain ⟨hx, hb, hml, hown, hts, hlk, hK, hF, hst, hbs, hnm⟩ := C
  obtain ⟨d, rfl⟩ := d
  intro H locs ls hW hS hl
  have k2 := k H locs ls hW hS hl
  exact lv_isub hx hb d (by rw [zI_sub]; exact k2)
theorem V_imul (C : Cx p l s m args meth c D kA b t0 nL own nm cc) {x y : Int} (d : DI cc pc (.imul) 1 pc') 
    (k : V p l e R s m args below meth c D kA b nL (cells) (slots) (Q) X (pc') (lv) (iv (x * y) :: st)) : V p l e R s m args below meth c D kA b nL (cells) (slots) (Q) X (pc) (lv) (iv y :: iv x :: st) := by
  obtain ⟨hx, hb, hml, hown, hts, hlk, hK, hF, hst, hbs, hnm⟩ := C
  obtain ⟨d, rfl⟩ := d
  intro H locs ls hW hS hl
  have k2 := k H locs ls hW hS hl
  exact lv_imul hx hb d (by rw [zI_mul]; exact k2)
theorem V_ineg (C : Cx p l s m args meth c D kA b t0 nL own nm cc) {x : Int} (d : DI cc pc (.ineg) 1 pc') 
    (k : V p l e R s m args below meth c D kA b nL (cells) (slots) (Q) X (pc') (lv) (iv (-x) :: st)) : V p l e R s m args below meth c D kA b nL (cells) (slots) (Q) X (pc) (lv) (iv x :: st) := by
  obtain ⟨hx, hb, hml, hown, hts, hlk, hK, hF, hst, hbs, hnm⟩ := C
  obtain ⟨d, rfl⟩ := d
  intro H locs ls hW hS hl
  have k2 := k H locs ls hW hS hl
  exact lv_ineg hx hb d (by rw [zI_neg]; exact k2)
theorem V_idiv (C : Cx p l s m args meth c D kA b t0 nL own nm cc) {x y : Int} (d : DI cc pc (.idiv) 1 pc') (hrx : rng x) (hry : rng y) (hy : y ≠ 0)
    (k : V p l e R s m args below meth c D kA b nL (cells) (slots) (Q) X (pc') (lv) (iv (x.tdiv y) :: st)) : V p l e R s m args below meth c D kA b nL (cells) (slots) (Q) X (pc) (lv) (iv y :: iv x :: st) := by
  obtain ⟨hx, hb, hml, hown, hts, hlk, hK, hF, hst, hbs, hnm⟩ := C
  obtain ⟨d, rfl⟩ := d
  intro H locs ls hW hS hl
  have k2 := k H locs ls hW hS hl
  exact lv_idiv hx hb d (fun h => hy ((zI_eq hry (by omega)).mp h)) (by rw [zI_div hrx hry]; exact k2)
theorem V_irem (C : Cx p l s m args meth c D kA b t0 nL own nm cc) {x y : Int} (d : DI cc pc (.irem) 1 pc') (hrx : rng x) (hry : rng y) (hy : y ≠ 0)
    (k : V p l e R s m args below meth c D kA b nL (cells) (slots) (Q) X (pc') (lv) (iv (x.tmod y) :: st)) : V p l e R s m args below meth c D kA b nL (cells) (slots) (Q) X (pc) (lv) (iv y :: iv x :: st) := by
  obtain ⟨hx, hb, hml, hown, hts, hlk, hK, hF, hst, hbs, hnm⟩ := C
  obtain ⟨d, rfl⟩ := d
  intro H locs ls hW hS hl
  have k2 := k H locs ls hW hS hl
  exact lv_irem hx hb d (fun h => hy ((zI_eq hry (by omega)).mp h)) (by rw [zI_div hrx hry, zI_mul, zI_sub, tmod_eq]; exact k2)
theorem V_ior (C : Cx p l s m args meth c D kA b t0 nL own nm cc) {x y : Int} (d : DI cc pc (.ior) 1 pc') (hx0 : x = 0 ∨ x = 1) (hy0 : y = 0 ∨ y = 1)
    (k : V p l e R s m args below meth c D kA b nL (cells) (slots) (Q) X (pc') (lv) (iv (if x = 0 then y else 1) :: st)) : V p l e R s m args below meth c D kA b nL (cells) (slots) (Q) X (pc) (lv) (iv y :: iv x :: st) := by
  obtain ⟨hx, hb, hml, hown, hts, hlk, hK, hF, hst, hbs, hnm⟩ := C
  obtain ⟨d, rfl⟩ := d
  intro H locs ls hW hS hl
  have k2 := k H locs ls hW hS hl
  have e : zI x ||| zI y = zI (if x = 0 then y else 1) := by
    rcases hx0 with rfl | rfl <;> rcases hy0 with rfl | rfl <;> decide
  exact lv_ior hx hb d (by rw [e]; exact k2)
theorem V_ladd (C : Cx p l s m args meth c D kA b t0 nL own nm cc) {x y : Int} (d : DI cc pc (.ladd) 1 pc') 
    (k : V p l e R s m args below meth c D kA b nL (cells) (slots) (Q) X (pc') (lv) (lo (x + y) :: st)) : V p l e R s m args below meth c D kA b nL (cells) (slots) (Q) X (pc) (lv) (lo y :: lo x :: st) := by
  obtain ⟨hx, hb, hml, hown, hts, hlk, hK, hF, hst, hbs, hnm⟩ := C
  obtain ⟨d, rfl⟩ := d
  intro H locs ls hW hS hl
  have k2 := k H locs ls hW hS hl
  exact lv_ladd hx hb d (by rw [zL_add]; exact k2)
theorem V_lmul (C : Cx p l s m args meth c D kA b t0 nL own nm cc) {x y : Int} (d : DI cc pc (.lmul) 1 pc') 
    (k : V p l e R s m args below meth c D kA b nL (cells) (slots) (Q) X (pc') (lv) (lo (x * y) :: st)) : V p l e R s m args below meth c D kA b nL (cells) (slots) (Q) X (pc) (lv) (lo y :: lo x :: st) := by
  obtain ⟨hx, hb, hml, hown, hts, hlk, hK, hF, hst, hbs, hnm⟩ := C
  obtain ⟨d, rfl⟩ := d
  intro H locs ls hW hS hl
  have k2 := k H locs ls hW hS hl
  exact lv_lmul hx hb d (by rw [zL_mul]; exact k2)
theorem V_ldiv (C : Cx p l s m args meth c D kA b t0 nL own nm cc) {x y : Int} (d : DI cc pc (.ldiv) 1 pc') (hrx : rngL x) (hry : rngL y) (hy : y ≠ 0)
    (k : V p l e R s m args below meth c D kA b nL (cells) (slots) (Q) X (pc') (lv) (lo (x.tdiv y) :: st)) : V p l e R s m args below meth c D kA b nL (cells) (slots) (Q) X (pc) (lv) (lo y :: lo x :: st) := by
  obtain ⟨hx, hb, hml, hown, hts, hlk, hK, hF, hst, hbs, hnm⟩ := C
  obtain ⟨d, rfl⟩ := d
  intro H locs ls hW hS hl
  have k2 := k H locs ls hW hS hl
  exact lv_ldiv hx hb d (fun h => hy ((zL_eq hry (by omega)).mp h)) (by rw [zL_div hrx hry]; exact k2)
theorem V_i2l (C : Cx p l s m args meth c D kA b t0 nL own nm cc) {x : Int} (d : DI cc pc (.i2l) 1 pc') (hr : rng x)
    (k : V p l e R s m args below meth c D kA b nL (cells) (slots) (Q) X (pc') (lv) (lo x :: st)) : V p l e R s m args below meth c D kA b nL (cells) (slots) (Q) X (pc) (lv) (iv x :: st) := by
  obtain ⟨hx, hb, hml, hown, hts, hlk, hK, hF, hst, hbs, hnm⟩ := C
  obtain ⟨d, rfl⟩ := d
  intro H locs ls hW hS hl
  have k2 := k H locs ls hW hS hl
  exact lv_i2l hx hb d (zI_long hr) k2
theorem V_l2i (C : Cx p l s m args meth c D kA b t0 nL own nm cc) {x : Int} (d : DI cc pc (.l2i) 1 pc') 
    (k : V p l e R s m args below meth c D kA b nL (cells) (slots) (Q) X (pc') (lv) (iv x :: st)) : V p l e R s m args below meth c D kA b nL (cells) (slots) (Q) X (pc) (lv) (lo x :: st) := by
  obtain ⟨hx, hb, hml, hown, hts, hlk, hK, hF, hst, hbs, hnm⟩ := C
  obtain ⟨d, rfl⟩ := d
  intro H locs ls hW hS hl
  have k2 := k H locs ls hW hS hl
  exact lv_l2i hx hb d (zL_i x) k2
theorem V_lcmp (C : Cx p l s m args meth c D kA b t0 nL own nm cc) {x y : Int} (d : DI cc pc (.lcmp) 1 pc') (hrx : rngL x) (hry : rngL y)
    (k : V p l e R s m args below meth c D kA b nL (cells) (slots) (Q) X (pc') (lv) (iv (if y < x then 1 else if x = y then 0 else -1) :: st)) : V p l e R s m args below meth c D kA b nL (cells) (slots) (Q) X (pc) (lv) (lo y :: lo x :: st) := by
  obtain ⟨hx, hb, hml, hown, hts, hlk, hK, hF, hst, hbs, hnm⟩ := C
  obtain ⟨d, rfl⟩ := d
  intro H locs ls hW hS hl
  have k2 := k H locs ls hW hS hl
  have e : lg_cmp (zL x) (zL y) = zI (if y < x then 1 else if x = y then 0 else -1) := by
    unfold lg_cmp
    have h1 : (zL x > zL y) ↔ y < x := zL_lt hry hrx
    have h2 : (zL x = zL y) ↔ x = y := zL_eq hrx hry
    simp only [h1, h2]
    split
    · rfl
    · split <;> rfl
  exact W.lcmp hx hb d (by rw [e]; exact k2)
theorem rng_0 : rng 0 := by omega
theorem V_if_eq (C : Cx p l s m args meth c D kA b t0 nL own nm cc) {x : Int} {off : Int} (d : DB cc pc (.ifCond .eq off) off 3 pc' tgt) (hr : rng x)
    (kt : x = 0 → V p l e R s m args below meth c D kA b nL (cells) (slots) (Q) X (tgt) (lv) (st)) (kf : x ≠ 0 → V p l e R s m args below meth c D kA b nL (cells) (slots) (Q) X (pc') (lv) (st)) : V p l e R s m args below meth c D kA b nL (cells) (slots) (Q) X (pc) (lv) (iv x :: st) := by
  obtain ⟨hx, hb, hml, hown, hts, hlk, hK, hF, hst, hbs, hnm⟩ := C
  obtain ⟨d, rfl, ht⟩ := d
  intro H locs ls hW hS hl
  exact lv_if_eq hx hb d ht (fun h => kt ((zI_eq hr rng_0).mp h) H locs ls hW hS hl) (fun h => kf (fun z => h ((zI_eq hr rng_0).mpr z)) H locs ls hW hS hl)
theorem V_if_ne (C : Cx p l s m args meth c D kA b t0 nL own nm cc) {x : Int} {off : Int} (d : DB cc pc (.ifCond .ne off) off 3 pc' tgt) (hr : rng x)
    (kt : x ≠ 0 → V p l e R s m args below meth c D kA b nL (cells) (slots) (Q) X (tgt) (lv) (st)) (kf : x = 0 → V p l e R s m args below meth c D kA b nL (cells) (slots) (Q) X (pc') (lv) (st)) : V p l e R s m args below meth c D kA b nL (cells) (slots) (Q) X (pc) (lv) (iv x :: st) := by
  obtain ⟨hx, hb, hml, hown, hts, hlk, hK, hF, hst, hbs, hnm⟩ := C
  obtain ⟨d, rfl, ht⟩ := d
  intro H locs ls hW hS hl
  exact lv_if_ne hx hb d ht (fun h => kt (fun z => h ((zI_eq hr rng_0).mpr z)) H locs ls hW hS hl) (fun h => kf ((zI_eq hr rng_0).mp h) H locs ls hW hS hl)
theorem V_if_lt (C : Cx p l s m args meth c D kA b t0 nL own nm cc) {x : Int} {off : Int} (d : DB cc pc (.ifCond .lt off) off 3 pc' tgt) (hr : rng x)
    (kt : x < 0 → V p l e R s m args below meth c D kA b nL (cells) (slots) (Q) X (tgt) (lv) (st)) (kf : 0 ≤ x → V p l e R s m args below meth c D kA b nL (cells) (slots) (Q) X (pc') (lv) (st)) : V p l e R s m args below meth c D kA b nL (cells) (slots) (Q) X (pc) (lv) (iv x :: st) := by
  obtain ⟨hx, hb, hml, hown, hts, hlk, hK, hF, hst, hbs, hnm⟩ := C
  obtain ⟨d, rfl, ht⟩ := d
  intro H locs ls hW hS hl
  exact lv_if_lt hx hb d ht (fun h => kt ((zI_lt hr rng_0).mp h) H locs ls hW hS hl) (fun h => kf (Int.not_lt.mp fun z => h ((zI_lt hr rng_0).mpr z)) H locs ls hW hS hl)
theorem V_if_ge (C : Cx p l s m args meth c D kA b t0 nL own nm cc) {x : Int} {off : Int} (d : DB cc pc (.ifCond .ge off) off 3 pc' tgt) (hr : rng x)
    (kt : 0 ≤ x → V p l e R s m args below meth c D kA b nL (cells) (slots) (Q) X (tgt) (lv) (st)) (kf : x < 0 → V p l e R s m args below meth c D kA b nL (cells) (slots) (Q) X (pc') (lv) (st)) : V p l e R s m args below meth c D kA b nL (cells) (slots) (Q) X (pc) (lv) (iv x :: st) := by
  obtain ⟨hx, hb, hml, hown, hts, hlk, hK, hF, hst, hbs, hnm⟩ := C
  obtain ⟨d, rfl, ht⟩ := d
  intro H locs ls hW hS hl
  exact lv_if_ge hx hb d ht (fun h => kt ((zI_le rng_0 hr).mp h) H locs ls hW hS hl) (fun h => kf (Int.not_le.mp fun z => h ((zI_le rng_0 hr).mpr z)) H locs ls hW hS hl)
theorem V_if_gt (C : Cx p l s m args meth c D kA b t0 nL own nm cc) {x : Int} {off : Int} (d : DB cc pc (.ifCond .gt off) off 3 pc' tgt) (hr : rng x)
    (kt : 0 < x → V p l e R s m args below meth c D kA b nL (cells) (slots) (Q) X (tgt) (lv) (st)) (kf : x ≤ 0 → V p l e R s m args below meth c D kA b nL (cells) (slots) (Q) X (pc') (lv) (st)) : V p l e R s m args below meth c D kA b nL (cells) (slots) (Q) X (pc) (lv) (iv x :: st) := by
  obtain ⟨hx, hb, hml, hown, hts, hlk, hK, hF, hst, hbs, hnm⟩ := C
  obtain ⟨d, rfl, ht⟩ := d
  intro H locs ls hW hS hl
  exact lv_if_gt hx hb d ht (fun h => kt ((zI_lt rng_0 hr).mp h) H locs ls hW hS hl) (fun h => kf (Int.not_lt.mp fun z => h ((zI_lt rng_0 hr).mpr z)) H locs ls hW hS hl)
theorem V_if_le (C : Cx p l s m args meth c D kA b t0 nL own nm cc) {x : Int} {off : Int} (d : DB cc pc (.ifCond .le off) off 3 pc' tgt) (hr : rng x)
    (kt : x ≤ 0 → V p l e R s m args below meth c D kA b nL (cells) (slots) (Q) X (tgt) (lv) (st)) (kf : 0 < x → V p l e R s m args below meth c D kA b nL (cells) (slots) (Q) X (pc') (lv) (st)) : V p l e R s m args below meth c D kA b nL (cells) (slots) (Q) X (pc) (lv) (iv x :: st) := by
  obtain ⟨hx, hb, hml, hown, hts, hlk, hK, hF, hst, hbs, hnm⟩ := C
  obtain ⟨d, rfl, ht⟩ := d
  intro H locs ls hW hS hl
  exact lv_if_le hx hb d ht (fun h => kt ((zI_le hr rng_0).mp h) H locs ls hW hS hl) (fun h => kf (Int.not_le.mp fun z => h ((zI_le hr rng_0).mpr z)) H locs ls hW hS hl)
theorem V_icmp_eq (C : Cx p l s m args meth c D kA b t0 nL own nm cc) {x y : Int} {off : Int} (d : DB cc pc (.if_icmp .eq off) off 3 pc' tgt) (hrx : rng x) (hry : rng y)
    (kt : x = y → V p l e R s m args below meth c D kA b nL (cells) (slots) (Q) X (tgt) (lv) (st)) (kf : x ≠ y → V p l e R s m args below meth c D kA b nL (cells) (slots) (Q) X (pc') (lv) (st)) : V p l e R s m args below meth c D kA b nL (cells) (slots) (Q) X (pc) (lv) (iv y :: iv x :: st) := by
  obtain ⟨hx, hb, hml, hown, hts, hlk, hK, hF, hst, hbs, hnm⟩ := C
  obtain ⟨d, rfl, ht⟩ := d
  intro H locs ls hW hS hl
  exact lv_icmp_eq hx hb d ht (fun h => kt ((zI_eq hrx hry).mp h) H locs ls hW hS hl) (fun h => kf (fun z => h ((zI_eq hrx hry).mpr z)) H locs ls hW hS hl)
theorem V_icmp_ne (C : Cx p l s m args meth c D kA b t0 nL own nm cc) {x y : Int} {off : Int} (d : DB cc pc (.if_icmp .ne off) off 3 pc' tgt) (hrx : rng x) (hry : rng y)
    (kt : x ≠ y → V p l e R s m args below meth c D kA b nL (cells) (slots) (Q) X (tgt) (lv) (st)) (kf : x = y → V p l e R s m args below meth c D kA b nL (cells) (slots) (Q) X (pc') (lv) (st)) : V p l e R s m args below meth c D kA b nL (cells) (slots) (Q) X (pc) (lv) (iv y :: iv x :: st) := by
  obtain ⟨hx, hb, hml, hown, hts, hlk, hK, hF, hst, hbs, hnm⟩ := C
  obtain ⟨d, rfl, ht⟩ := d
  intro H locs ls hW hS hl
  exact lv_icmp_ne hx hb d ht (fun h => kt (fun z => h ((zI_eq hrx hry).mpr z)) H locs ls hW hS hl) (fun h => kf ((zI_eq hrx hry).mp h) H locs ls hW hS hl)
theorem V_icmp_lt (C : Cx p l s m args meth c D kA b t0 nL own nm cc) {x y : Int} {off : Int} (d : DB cc pc (.if_icmp .lt off) off 3 pc' tgt) (hrx : rng x) (hry : rng y)
    (kt : x < y → V p l e R s m args below meth c D kA b nL (cells) (slots) (Q) X (tgt) (lv) (st)) (kf : y ≤ x → V p l e R s m args below meth c D kA b nL (cells) (slots) (Q) X (pc') (lv) (st)) : V p l e R s m args below meth c D kA b nL (cells) (slots) (Q) X (pc) (lv) (iv y :: iv x :: st) := by
  obtain ⟨hx, hb, hml, hown, hts, hlk, hK, hF, hst, hbs, hnm⟩ := C
  obtain ⟨d, rfl, ht⟩ := d
  intro H locs ls hW hS hl
  exact lv_icmp_lt hx hb d ht (fun h => kt ((zI_lt hrx hry).mp h) H locs ls hW hS hl) (fun h => kf (Int.not_lt.mp fun z => h ((zI_lt hrx hry).mpr z)) H locs ls hW hS hl)
theorem V_icmp_ge (C : Cx p l s m args meth c D kA b t0 nL own nm cc) {x y : Int} {off : Int} (d : DB cc pc (.if_icmp .ge off) off 3 pc' tgt) (hrx : rng x) (hry : rng y)
    (kt : y ≤ x → V p l e R s m args below meth c D kA b nL (cells) (slots) (Q) X (tgt) (lv) (st)) (kf : x < y → V p l e R s m args below meth c D kA b nL (cells) (slots) (Q) X (pc') (lv) (st)) : V p l e R s m args below meth c D kA b nL (cells) (slots) (Q) X (pc) (lv) (iv y :: iv x :: st) := by
  obtain ⟨hx, hb, hml, hown, hts, hlk, hK, hF, hst, hbs, hnm⟩ := C
  obtain ⟨d, rfl, ht⟩ := d
  intro H locs ls hW hS hl
  exact lv_icmp_ge hx hb d ht (fun h => kt ((zI_le hry hrx).mp h) H locs ls hW hS hl) (fun h => kf (Int.not_le.mp fun z => h ((zI_le hry hrx).mpr z)) H locs ls hW hS hl)
theorem V_icmp_gt (C : Cx p l s m args meth c D kA b t0 nL own nm cc) {x y : Int} {off : Int} (d : DB cc pc (.if_icmp .gt off) off 3 pc' tgt) (hrx : rng x) (hry : rng y)
    (kt : y < x → V p l e R s m args below meth c D kA b nL (cells) (slots) (Q) X (tgt) (lv) (st)) (kf : x ≤ y → V p l e R s m args below meth c D kA b nL (cells) (slots) (Q) X (pc') (lv) (st)) : V p l e R s m args below meth c D kA b nL (cells) (slots) (Q) X (pc) (lv) (iv y :: iv x :: st) := by
  obtain ⟨hx, hb, hml, hown, hts, hlk, hK, hF, hst, hbs, hnm⟩ := C
  obtain ⟨d, rfl, ht⟩ := d
  intro H locs ls hW hS hl
  exact lv_icmp_gt hx hb d ht (fun h => kt ((zI_lt hry hrx).mp h) H locs ls hW hS hl) (fun h => kf (Int.not_lt.mp fun z => h ((zI_lt hry hrx).mpr z)) H locs ls hW hS hl)
theorem V_icmp_le (C : Cx p l s m args meth c D kA b t0 nL own nm cc) {x y : Int} {off : Int} (d : DB cc pc (.if_icmp .le off) off 3 pc' tgt) (hrx : rng x) (hry : rng y)
    (kt : x ≤ y → V p l e R s m args below meth c D kA b nL (cells) (slots) (Q) X (tgt) (lv) (st)) (kf : y < x → V p l e R s m args below meth c D kA b nL (cells) (slots) (Q) X (pc') (lv) (st)) : V p l e R s m args below meth c D kA b nL (cells) (slots) (Q) X (pc) (lv) (iv y :: iv x :: st) := by
  obtain ⟨hx, hb, hml, hown, hts, hlk, hK, hF, hst, hbs, hnm⟩ := C
  obtain ⟨d, rfl, ht⟩ := d
  intro H locs ls hW hS hl
  exact lv_icmp_le hx hb d ht (fun h => kt ((zI_le hrx hry).mp h) H locs ls hW hS hl) (fun h => kf (Int.not_le.mp fun z => h ((zI_le hrx hry).mpr z)) H locs ls hW hS hl)
theorem V_acmp_eq (C : Cx p l s m args meth c D kA b t0 nL own nm cc) {x y : Option Nat} {off : Int} (d : DB cc pc (.if_acmp .eq off) off 3 pc' tgt) 
    (kt : x = y → V p l e R s m args below meth c D kA b nL (cells) (slots) (Q) X (tgt) (lv) (st)) (kf : x ≠ y → V p l e R s m args below meth c D kA b nL (cells) (slots) (Q) X (pc') (lv) (st)) : V p l e R s m args below meth c D kA b nL (cells) (slots) (Q) X (pc) (lv) (rv y :: rv x :: st) := by
  obtain ⟨hx, hb, hml, hown, hts, hlk, hK, hF, hst, hbs, hnm⟩ := C
  obtain ⟨d, rfl, ht⟩ := d
  intro H locs ls hW hS hl
  exact lv_acmp_eq hx hb d ht (fun h => kt h H locs ls hW hS hl) (fun h => kf h H locs ls hW hS hl)
theorem V_acmp_ne (C : Cx p l s m args meth c D kA b t0 nL own nm cc) {x y : Option Nat} {off : Int} (d : DB cc pc (.if_acmp .ne off) off 3 pc' tgt) 
    (kt : x ≠ y → V p l e R s m args below meth c D kA b nL (cells) (slots) (Q) X (tgt) (lv) (st)) (kf : x = y → V p l e R s m args below meth c D kA b nL (cells) (slots) (Q) X (pc') (lv) (st)) : V p l e R s m args below meth c D kA b nL (cells) (slots) (Q) X (pc) (lv) (rv y :: rv x :: st) := by
  obtain ⟨hx, hb, hml, hown, hts, hlk, hK, hF, hst, hbs, hnm⟩ := C
  obtain ⟨d, rfl, ht⟩ := d
  intro H locs ls hW hS hl
  exact lv_acmp_ne hx hb d ht (fun h => kt h H locs ls hW hS hl) (fun h => kf h H locs ls hW hS hl)
theorem V_ifnull (C : Cx p l s m args meth c D kA b t0 nL own nm cc) {x : Option Nat} {off : Int} (d : DB cc pc (.ifnull off) off 3 pc' tgt) 
    (kt : x = none → V p l e R s m args below meth c D kA b nL (cells) (slots) (Q) X (tgt) (lv) (st)) (kf : x ≠ none → V p l e R s m args below meth c D kA b nL (cells) (slots) (Q) X (pc') (lv) (st)) : V p l e R s m args below meth c D kA b nL (cells) (slots) (Q) X (pc) (lv) (rv x :: st) := by
  obtain ⟨hx, hb, hml, hown, hts, hlk, hK, hF, hst, hbs, hnm⟩ := C
  obtain ⟨d, rfl, ht⟩ := d
  intro H locs ls hW hS hl
  cases x with
  | none => exact lv_ifnullN hx hb d ht (kt rfl H locs ls hW hS hl)
  | some y => exact lv_ifnull hx hb d (kf (fun h => nomatch h) H locs ls hW hS hl)
theorem V_goto (C : Cx p l s m args meth c D kA b t0 nL own nm cc) {off : Int} (d : DB cc pc (.goto off) off 3 pc' tgt) (k : V p l e R s m args below meth c D kA b nL (cells) (slots) (Q) X (tgt) (lv) (st)) : V p l e R s m args below meth c D kA b nL (cells) (slots) (Q) X (pc) (lv) (st) := by
  obtain ⟨hx, hb, hml, hown, hts, hlk, hK, hF, hst, hbs, hnm⟩ := C
  obtain ⟨d, rfl, ht⟩ := d
  intro H locs ls hW hS hl
  exact lv_goto hx hb d ht (k H locs ls hW hS hl)
end VS
end
section
/-! rows of the heap: fields, arrays, new cells -/
/-- class ci of vwCl -/
def CL (ci : Nat) (Cn : String) (T : u_T) (N : Nat) (ty : Nat → FieldType) : Prop := vwCl[ci]? = some (Cn, T, N) ∧ ci < 19 ∧ nF ci = N ∧ (∀ k, k < N → parseFieldDescriptor (T k).2.2.1 = some (ty k)) ∧ (∀ a, a < N → ∀ b, b < N → a ≠ b → (T a).2.1 ≠ (T b).2.1) ∧ (∀ w ∈ u_ws Cn T N, w ∈ TBL) ∧ (∀ k, k < N → defaultValue (ty k) = if isR ci k then .null else .int 0)
/-- entry idx of own's constants is field k of class ci, f of the memory -/
def FD (own : String) (idx ci : Nat) (T : u_T) (N k f : Nat) (r : Bool) : Prop := k < N ∧ 64 * ci + k = f ∧ isR ci k = r ∧ ∃ ref, Cond.fieldLink own idx ref (T k).2.1 (T k).2.2.1 ∈ TBL ∧ (ref = (T k).1 ∨ Cond.sameField ref (T k).1 (T k).2.1 (T k).2.2.1 ∈ TBL)
section VH
variable {p : Program} {l : Launch} {e : Env} {R : Room} {s : State} {m : MethodId} {args : Array Value} {below : List Frame} {meth : Method} {c : Code}
variable {D : va_G} {kA : Nat → ClassId} {b t0 nL cells slots : Nat} {Q : State → Prop} {own nm : String} {cc : ByteArray} {X : Mm} {pc pc' tgt : Nat} {lv : List (Option Value)} {st : List Value}

theorem fd_same {ref : String} {T : u_T} {k : Nat} (hts : ∀ w ∈ TBL, w.before args s = true) (h : ref = (T k).1 ∨ Cond.sameField ref (T k).1 (T k).2.1 (T k).2.2.1 ∈ TBL) : ∀ x, s.fieldFound? (T k).1 (T k).2.1 (T k).2.2.1 = some x → s.fieldFound? ref (T k).2.1 (T k).2.2.1 = some x := by
  intro x hx
  rcases h with rfl | h
  · exact hx
  · exact u_same (hts _ h) x hx
theorem V_getI (C : Cx p l s m args meth c D kA b t0 nL own nm cc) {a ci N kf f idx : Nat} {Cn : String} {T : u_T} {ty : Nat → FieldType} (cl : CL ci Cn T N ty) (fd : FD own idx ci T N kf f false) (ho : gK X a = ci + 1) (d : DI cc pc (.getfield idx) 3 pc')
    (k : V p l e R s m args below meth c D kA b nL (cells) (slots) (Q) X (pc') (lv) (iv (gI X f a) :: st)) : V p l e R s m args below meth c D kA b nL (cells) (slots) (Q) X (pc) (lv) (rv (some a) :: st) := by
  obtain ⟨hx, hb, hml, hown, hts, hlk, hK, hF, hst, hbs, hnm⟩ := C
  obtain ⟨hc, hci, hnf, hty, hnmm, hin, hdf⟩ := cl
  obtain ⟨hk, rfl, hr, ref, hlink, hsm⟩ := fd
  obtain ⟨d, rfl⟩ := d
  intro H locs ls hW hS hl
  have he := cE_obj (kA := kA) ho hci
  refine va_get (D := D) (cl := vwCl) (ci := ci) (N := N) hx hb hts hin hown hK (hW.P1 he) 0 rfl hc kf hk (hts _ hlink) (fd_same hts hsm) (v := iv (gI X (64 * ci + kf) a)) ?_ d (k H locs ls hW hS hl)
  rw [fl_get _ _ (by omega), hr]
  rfl
theorem V_getP (C : Cx p l s m args meth c D kA b t0 nL own nm cc) {a ci N kf f idx : Nat} {Cn : String} {T : u_T} {ty : Nat → FieldType} {r : Option Nat} (cl : CL ci Cn T N ty) (fd : FD own idx ci T N kf f true) (ho : gK X a = ci + 1) (hp : gP X f a = r) (d : DI cc pc (.getfield idx) 3 pc')
    (k : V p l e R s m args below meth c D kA b nL (cells) (slots) (Q) X (pc') (lv) (rv r :: st)) : V p l e R s m args below meth c D kA b nL (cells) (slots) (Q) X (pc) (lv) (rv (some a) :: st) := by
  obtain ⟨hx, hb, hml, hown, hts, hlk, hK, hF, hst, hbs, hnm⟩ := C
  obtain ⟨hc, hci, hnf, hty, hnmm, hin, hdf⟩ := cl
  obtain ⟨hk, rfl, hr, ref, hlink, hsm⟩ := fd
  obtain ⟨d, rfl⟩ := d
  intro H locs ls hW hS hl
  have he := cE_obj (kA := kA) ho hci
  refine va_get (D := D) (cl := vwCl) (ci := ci) (N := N) hx hb hts hin hown hK (hW.P1 he) 0 rfl hc kf hk (hts _ hlink) (fd_same hts hsm) (v := rv r) ?_ d (k H locs ls hW hS hl)
  rw [fl_get _ _ (by omega), hr, ← hp]
  rfl
theorem V_putI (C : Cx p l s m args meth c D kA b t0 nL own nm cc) {a ci N kf f idx : Nat} {Cn : String} {T : u_T} {ty : Nat → FieldType} {z : Int} (cl : CL ci Cn T N ty) (fd : FD own idx ci T N kf f false) (hfin : (T kf).2.2.2 = false ∨ ((T kf).2.2.2 = true ∧ nm = "<init>" ∧ (T kf).1 = own)) (ht : ty kf = .int) (ho : gK X a = ci + 1) (d : DI cc pc (.putfield idx) 3 pc')
    (k : V p l e R s m args below meth c D kA b nL (cells) (slots) (Q) (sI X f a z) (pc') (lv) (st)) : V p l e R s m args below meth c D kA b nL (cells) (slots) (Q) X (pc) (lv) (iv z :: rv (some a) :: st) := by
  obtain ⟨hx, hb, hml, hown, hts, hlk, hK, hF, hst, hbs, hnm⟩ := C
  obtain ⟨hc, hci, hnf, hty, hnmm, hin, hdf⟩ := cl
  obtain ⟨hk, rfl, hr, ref, hlink, hsm⟩ := fd
  obtain ⟨d, rfl⟩ := d
  intro H locs ls hW hS hl
  have he := cE_obj (kA := kA) ho hci
  obtain ⟨j, hj⟩ := hW.at he (by omega)
  obtain ⟨hP, hD⟩ := hW.PD
  have hset : fl ci (sI X (64 * ci + kf) a z) a = (fl ci X a).set kf (iv z) := fl_sI X a z hr
  have fin : ∀ (H1 : Heap) (locs1 : List Loc), va_P D vwCl ((lsW kA X H.size).set j (a, .inr (ci, (fl ci X a).set kf (iv z)))) H1 → va_D (Ab b) ((lsW kA X H.size).set j (a, .inr (ci, (fl ci X a).set kf (iv z)))) → va_S (Ab b) s.heap H1 locs1 → W p l e R s m args below meth c H1 locs1 cells slots Q (F0 m (pc + 3) ls st) := by
    intro H1 locs1 hP1 _ hS1
    rw [← hset] at hP1
    refine k H1 locs1 ls (hW.set hbs hS hS1 hj hP1 (cE_obj (by exact ho) hci) rfl (fun q hq => ⟨cE_ext rfl (fun g => ?_) (fun g => ?_) rfl (fun _ => rfl) (fun _ => rfl), rfl⟩)) hS1 hl
    · first | rfl | (rw [gI_sI, if_neg (fun z => hq z.2)])
    · first | rfl | (rw [gP_sP, if_neg (fun z => hq z.2)])
  rcases hfin with hfin | ⟨hfin, h2, h3⟩
  · exact va_put (D := D) (cl := vwCl) (ci := ci) (N := N) hx hb hts hin ty hty hnmm hown hK hP hD hS j hj hc kf hk (hts _ hlink) (fd_same hts hsm) hfin (hty kf hk) (by rw [ht]; rfl) (by rw [ht]; rfl) (by rw [fl_len]; omega) d fin
  · exact va_putF (D := D) (cl := vwCl) (ci := ci) (N := N) hx hb hts hin ty hty hnmm hown hK hP hD hS j hj hc kf hk (hts _ hlink) (fd_same hts hsm) hfin (hnm.trans h2) h3 (hty kf hk) (by rw [ht]; rfl) (by rw [ht]; rfl) (by rw [fl_len]; omega) d fin
theorem V_putZ (C : Cx p l s m args meth c D kA b t0 nL own nm cc) {a ci N kf f idx : Nat} {Cn : String} {T : u_T} {ty : Nat → FieldType} {z : Int} (cl : CL ci Cn T N ty) (fd : FD own idx ci T N kf f false) (hfin : (T kf).2.2.2 = false ∨ ((T kf).2.2.2 = true ∧ nm = "<init>" ∧ (T kf).1 = own)) (ht : ty kf = .boolean) (hz : z = 0 ∨ z = 1) (ho : gK X a = ci + 1) (d : DI cc pc (.putfield idx) 3 pc')
    (k : V p l e R s m args below meth c D kA b nL (cells) (slots) (Q) (sI X f a z) (pc') (lv) (st)) : V p l e R s m args below meth c D kA b nL (cells) (slots) (Q) X (pc) (lv) (iv z :: rv (some a) :: st) := by
  obtain ⟨hx, hb, hml, hown, hts, hlk, hK, hF, hst, hbs, hnm⟩ := C
  obtain ⟨hc, hci, hnf, hty, hnmm, hin, hdf⟩ := cl
  obtain ⟨hk, rfl, hr, ref, hlink, hsm⟩ := fd
  obtain ⟨d, rfl⟩ := d
  intro H locs ls hW hS hl
  have he := cE_obj (kA := kA) ho hci
  obtain ⟨j, hj⟩ := hW.at he (by omega)
  obtain ⟨hP, hD⟩ := hW.PD
  have hset : fl ci (sI X (64 * ci + kf) a z) a = (fl ci X a).set kf (iv z) := fl_sI X a z hr
  have fin : ∀ (H1 : Heap) (locs1 : List Loc), va_P D vwCl ((lsW kA X H.size).set j (a, .inr (ci, (fl ci X a).set kf (iv z)))) H1 → va_D (Ab b) ((lsW kA X H.size).set j (a, .inr (ci, (fl ci X a).set kf (iv z)))) → va_S (Ab b) s.heap H1 locs1 → W p l e R s m args below meth c H1 locs1 cells slots Q (F0 m (pc + 3) ls st) := by
    intro H1 locs1 hP1 _ hS1
    rw [← hset] at hP1
    refine k H1 locs1 ls (hW.set hbs hS hS1 hj hP1 (cE_obj (by exact ho) hci) rfl (fun q hq => ⟨cE_ext rfl (fun g => ?_) (fun g => ?_) rfl (fun _ => rfl) (fun _ => rfl), rfl⟩)) hS1 hl
    · first | rfl | (rw [gI_sI, if_neg (fun z => hq z.2)])
    · first | rfl | (rw [gP_sP, if_neg (fun z => hq z.2)])
  rcases hfin with hfin | ⟨hfin, h2, h3⟩
  · exact va_put (D := D) (cl := vwCl) (ci := ci) (N := N) hx hb hts hin ty hty hnmm hown hK hP hD hS j hj hc kf hk (hts _ hlink) (fd_same hts hsm) hfin (hty kf hk) (by rw [ht]; rcases hz with rfl | rfl <;> rfl) (by rw [ht]; rcases hz with rfl | rfl <;> rfl) (by rw [fl_len]; omega) d fin
  · exact va_putF (D := D) (cl := vwCl) (ci := ci) (N := N) hx hb hts hin ty hty hnmm hown hK hP hD hS j hj hc kf hk (hts _ hlink) (fd_same hts hsm) hfin (hnm.trans h2) h3 (hty kf hk) (by rw [ht]; rcases hz with rfl | rfl <;> rfl) (by rw [ht]; rcases hz with rfl | rfl <;> rfl) (by rw [fl_len]; omega) d fin
theorem V_putP (C : Cx p l s m args meth c D kA b t0 nL own nm cc) {a ci N kf f idx : Nat} {Cn : String} {T : u_T} {ty : Nat → FieldType} {r : Option Nat} (cl : CL ci Cn T N ty) (fd : FD own idx ci T N kf f true) (hfin : (T kf).2.2.2 = false ∨ ((T kf).2.2.2 = true ∧ nm = "<init>" ∧ (T kf).1 = own)) (ht : (∃ C, ty kf = .object C) ∨ ∃ t, ty kf = .array t) (ho : gK X a = ci + 1) (d : DI cc pc (.putfield idx) 3 pc')
    (k : V p l e R s m args below meth c D kA b nL (cells) (slots) (Q) (sP X f a r) (pc') (lv) (st)) : V p l e R s m args below meth c D kA b nL (cells) (slots) (Q) X (pc) (lv) (rv r :: rv (some a) :: st) := by
  obtain ⟨hx, hb, hml, hown, hts, hlk, hK, hF, hst, hbs, hnm⟩ := C
  obtain ⟨hc, hci, hnf, hty, hnmm, hin, hdf⟩ := cl
  obtain ⟨hk, rfl, hr, ref, hlink, hsm⟩ := fd
  obtain ⟨d, rfl⟩ := d
  intro H locs ls hW hS hl
  have he := cE_obj (kA := kA) ho hci
  obtain ⟨j, hj⟩ := hW.at he (by omega)
  obtain ⟨hP, hD⟩ := hW.PD
  have hset : fl ci (sP X (64 * ci + kf) a r) a = (fl ci X a).set kf (rv r) := fl_sP X a r hr
  have fin : ∀ (H1 : Heap) (locs1 : List Loc), va_P D vwCl ((lsW kA X H.size).set j (a, .inr (ci, (fl ci X a).set kf (rv r)))) H1 → va_D (Ab b) ((lsW kA X H.size).set j (a, .inr (ci, (fl ci X a).set kf (rv r)))) → va_S (Ab b) s.heap H1 locs1 → W p l e R s m args below meth c H1 locs1 cells slots Q (F0 m (pc + 3) ls st) := by
    intro H1 locs1 hP1 _ hS1
    rw [← hset] at hP1
    refine k H1 locs1 ls (hW.set hbs hS hS1 hj hP1 (cE_obj (by exact ho) hci) rfl (fun q hq => ⟨cE_ext rfl (fun g => ?_) (fun g => ?_) rfl (fun _ => rfl) (fun _ => rfl), rfl⟩)) hS1 hl
    · first | rfl | (rw [gI_sI, if_neg (fun z => hq z.2)])
    · first | rfl | (rw [gP_sP, if_neg (fun z => hq z.2)])
  rcases hfin with hfin | ⟨hfin, h2, h3⟩
  · exact va_put (D := D) (cl := vwCl) (ci := ci) (N := N) hx hb hts hin ty hty hnmm hown hK hP hD hS j hj hc kf hk (hts _ hlink) (fd_same hts hsm) hfin (hty kf hk) (by rcases ht with ⟨_, h⟩ | ⟨_, h⟩ <;> rw [h] <;> cases r <;> rfl) (by rcases ht with ⟨_, h⟩ | ⟨_, h⟩ <;> rw [h] <;> cases r <;> rfl) (by rw [fl_len]; omega) d fin
  · exact va_putF (D := D) (cl := vwCl) (ci := ci) (N := N) hx hb hts hin ty hty hnmm hown hK hP hD hS j hj hc kf hk (hts _ hlink) (fd_same hts hsm) hfin (hnm.trans h2) h3 (hty kf hk) (by rcases ht with ⟨_, h⟩ | ⟨_, h⟩ <;> rw [h] <;> cases r <;> rfl) (by rcases ht with ⟨_, h⟩ | ⟨_, h⟩ <;> rw [h] <;> cases r <;> rfl) (by rw [fl_len]; omega) d fin
theorem V_iald (C : Cx p l s m args meth c D kA b t0 nL own nm cc) {a j n : Nat} {z : Int} (ho : gK X a = 20) (hN : gN X a = n) (hj : j < n) (hn : n ≤ 2147483647) (hz : z = (j : Int)) (d : DI cc pc (.iaload) 1 pc')
    (k : V p l e R s m args below meth c D kA b nL (cells) (slots) (Q) X (pc') (lv) (iv (gA X a j) :: st)) : V p l e R s m args below meth c D kA b nL (cells) (slots) (Q) X (pc) (lv) (iv z :: rv (some a) :: st) := by
  obtain ⟨hx, hb, hml, hown, hts, hlk, hK, hF, hst, hbs, hnm⟩ := C
  obtain ⟨d, rfl⟩ := d
  subst hz
  intro H locs ls hW hS hl
  subst hN
  have hcl : (zI (j : Int)).toNatClampNeg = j := zI_clamp (by omega)
  refine va_iald (D := D) (cl := vwCl) (ws := [(a, _)]) hx hb hK (hW.P1 (cE_20 ho)) 0 0 rfl rfl (zI_in (by omega) (by omega) (by omega)) d ?_
  rw [hcl]
  exact k H locs ls hW hS hl
theorem V_zald (C : Cx p l s m args meth c D kA b t0 nL own nm cc) {a j n : Nat} {z : Int} (ho : gK X a = 21) (hN : gN X a = n) (hj : j < n) (hn : n ≤ 2147483647) (hz : z = (j : Int)) (d : DI cc pc (.baload) 1 pc')
    (k : V p l e R s m args below meth c D kA b nL (cells) (slots) (Q) X (pc') (lv) (iv (gA X a j) :: st)) : V p l e R s m args below meth c D kA b nL (cells) (slots) (Q) X (pc) (lv) (iv z :: rv (some a) :: st) := by
  obtain ⟨hx, hb, hml, hown, hts, hlk, hK, hF, hst, hbs, hnm⟩ := C
  obtain ⟨d, rfl⟩ := d
  subst hz
  intro H locs ls hW hS hl
  subst hN
  have hcl : (zI (j : Int)).toNatClampNeg = j := zI_clamp (by omega)
  refine va_zald (D := D) (cl := vwCl) (ws := [(a, _)]) hx hb hK (hW.P1 (cE_21 ho)) 0 1 rfl rfl (zI_in (by omega) (by omega) (by omega)) d ?_
  rw [hcl]
  exact k H locs ls hW hS hl
theorem V_lald (C : Cx p l s m args meth c D kA b t0 nL own nm cc) {a j n : Nat} {z : Int} (ho : gK X a = 22) (hN : gN X a = n) (hj : j < n) (hn : n ≤ 2147483647) (hz : z = (j : Int)) (d : DI cc pc (.laload) 1 pc')
    (k : V p l e R s m args below meth c D kA b nL (cells) (slots) (Q) X (pc') (lv) (lo (gA X a j) :: st)) : V p l e R s m args below meth c D kA b nL (cells) (slots) (Q) X (pc) (lv) (iv z :: rv (some a) :: st) := by
  obtain ⟨hx, hb, hml, hown, hts, hlk, hK, hF, hst, hbs, hnm⟩ := C
  obtain ⟨d, rfl⟩ := d
  subst hz
  intro H locs ls hW hS hl
  subst hN
  have hcl : (zI (j : Int)).toNatClampNeg = j := zI_clamp (by omega)
  refine va_lald (D := D) (cl := vwCl) (ws := [(a, _)]) hx hb hK (hW.P1 (cE_22 ho)) 0 2 rfl rfl (zI_in (by omega) (by omega) (by omega)) d ?_
  rw [hcl]
  exact k H locs ls hW hS hl
theorem V_aald (C : Cx p l s m args meth c D kA b t0 nL own nm cc) {a j n : Nat} {z : Int} {r : Option Nat} (ho : gK X a = 23) (hN : gN X a = n) (hj : j < n) (hn : n ≤ 2147483647) (hz : z = (j : Int)) (hr : gO X a j = r) (d : DI cc pc (.aaload) 1 pc')
    (k : V p l e R s m args below meth c D kA b nL (cells) (slots) (Q) X (pc') (lv) (rv r :: st)) : V p l e R s m args below meth c D kA b nL (cells) (slots) (Q) X (pc) (lv) (iv z :: rv (some a) :: st) := by
  obtain ⟨hx, hb, hml, hown, hts, hlk, hK, hF, hst, hbs, hnm⟩ := C
  obtain ⟨d, rfl⟩ := d
  subst hz
  intro H locs ls hW hS hl
  subst hN
  subst hr
  have hcl : (zI (j : Int)).toNatClampNeg = j := zI_clamp (by omega)
  refine va_aldq (D := D) (cl := vwCl) (ws := [(a, _)]) hx hb hK (hW.P1 (cE_23 (Or.inl ho))) 0 3 rfl rfl (zI_in (by omega) (by omega) (by omega)) d ?_
  rw [hcl]
  exact k H locs ls hW hS hl
theorem V_alen (C : Cx p l s m args meth c D kA b t0 nL own nm cc) {a n : Nat} (ho : gK X a = 20 ∨ gK X a = 21 ∨ gK X a = 22 ∨ gK X a = 23 ∨ gK X a = 24) (hN : gN X a = n) (d : DI cc pc (.arraylength) 1 pc')
    (k : V p l e R s m args below meth c D kA b nL (cells) (slots) (Q) X (pc') (lv) (iv (n : Int) :: st)) : V p l e R s m args below meth c D kA b nL (cells) (slots) (Q) X (pc) (lv) (rv (some a) :: st) := by
  obtain ⟨hx, hb, hml, hown, hts, hlk, hK, hF, hst, hbs, hnm⟩ := C
  obtain ⟨d, rfl⟩ := d
  subst hN
  intro H locs ls hW hS hl
  have e : Int32.ofNat (gN X a) = zI (gN X a : Int) := (Int32.ofInt_eq_ofNat).symm
  rcases ho with ho | ho | ho | ho
  · exact va_alen (D := D) (cl := vwCl) (ws := [(a, _)]) hx hb hK (hW.P1 (cE_20 ho)) 0 0 rfl rfl e d (k H locs ls hW hS hl)
  · exact va_alen (D := D) (cl := vwCl) (ws := [(a, _)]) hx hb hK (hW.P1 (cE_21 ho)) 0 1 rfl rfl e d (k H locs ls hW hS hl)
  · exact va_alen (D := D) (cl := vwCl) (ws := [(a, _)]) hx hb hK (hW.P1 (cE_22 ho)) 0 2 rfl rfl e d (k H locs ls hW hS hl)
  · exact va_alen (D := D) (cl := vwCl) (ws := [(a, _)]) hx hb hK (hW.P1 (cE_23 ho)) 0 3 rfl rfl e d (k H locs ls hW hS hl)
theorem V_iast (C : Cx p l s m args meth c D kA b t0 nL own nm cc) {a j n : Nat} {z x : Int} (ho : gK X a = 20) (hN : gN X a = n) (hj : j < n) (hn : n ≤ 2147483647) (hz : z = (j : Int))  (d : DI cc pc (.iastore) 1 pc')
    (k : V p l e R s m args below meth c D kA b nL (cells) (slots) (Q) (sA X a j x) (pc') (lv) (st)) : V p l e R s m args below meth c D kA b nL (cells) (slots) (Q) X (pc) (lv) (iv x :: iv z :: rv (some a) :: st) := by
  obtain ⟨hx, hb, hml, hown, hts, hlk, hK, hF, hst, hbs, hnm⟩ := C
  obtain ⟨d, rfl⟩ := d
  subst hz
  intro H locs ls hW hS hl
  subst hN
  have hcl : (zI (j : Int)).toNatClampNeg = j := zI_clamp (by omega)
  obtain ⟨i, hi⟩ := hW.at (cE_20 ho) (by omega)
  obtain ⟨hP, hD⟩ := hW.PD
  refine va_iast (D := D) (cl := vwCl) hx hb hK hP hD hS i 0 hi rfl (zI_in (by omega) (by omega) (by omega)) d (fun H1 locs1 hP1 _ hS1 => ?_)
  rw [hcl] at hP1
  have e1 : upd (fun i => zI (gA X a i)) j (zI x) = fun i => zI (gA (sA X a j x) a i) := by
    funext q
    rw [gA_sA]
    by_cases hq : q = j <;> simp [upd, hq]
  rw [e1] at hP1
  refine k H1 locs1 ls (hW.set hbs hS hS1 hi hP1 (cE_20 (by exact ho)) rfl (fun q hq => ⟨cE_ext rfl (fun _ => rfl) (fun _ => rfl) rfl (fun g => ?_) (fun g => ?_), rfl⟩)) hS1 hl
  · rw [gA_sA, if_neg (fun z => hq z.1)]
  · rfl
theorem V_zast (C : Cx p l s m args meth c D kA b t0 nL own nm cc) {a j n : Nat} {z x : Int} (ho : gK X a = 21) (hN : gN X a = n) (hj : j < n) (hn : n ≤ 2147483647) (hz : z = (j : Int)) (hx0 : x = 0 ∨ x = 1) (d : DI cc pc (.bastore) 1 pc')
    (k : V p l e R s m args below meth c D kA b nL (cells) (slots) (Q) (sA X a j x) (pc') (lv) (st)) : V p l e R s m args below meth c D kA b nL (cells) (slots) (Q) X (pc) (lv) (iv x :: iv z :: rv (some a) :: st) := by
  obtain ⟨hx, hb, hml, hown, hts, hlk, hK, hF, hst, hbs, hnm⟩ := C
  obtain ⟨d, rfl⟩ := d
  subst hz
  intro H locs ls hW hS hl
  subst hN
  have hcl : (zI (j : Int)).toNatClampNeg = j := zI_clamp (by omega)
  obtain ⟨i, hi⟩ := hW.at (cE_21 ho) (by omega)
  obtain ⟨hP, hD⟩ := hW.PD
  refine va_zast (D := D) (cl := vwCl) hx hb hK hP hD hS i 1 hi rfl (zI_in (by omega) (by omega) (by omega)) d (fun H1 locs1 hP1 _ hS1 => ?_)
  rw [hcl] at hP1
  have hnr : vp_nar .boolean (zI x) = zI x := by rcases hx0 with rfl | rfl <;> rfl
  have e1 : upd (fun i => zI (gA X a i)) j (vp_nar .boolean (zI x)) = fun i => zI (gA (sA X a j x) a i) := by
    funext q
    rw [gA_sA]
    by_cases hq : q = j <;> simp [upd, hq, hnr]
  rw [e1] at hP1
  refine k H1 locs1 ls (hW.set hbs hS hS1 hi hP1 (cE_21 (by exact ho)) rfl (fun q hq => ⟨cE_ext rfl (fun _ => rfl) (fun _ => rfl) rfl (fun g => ?_) (fun g => ?_), rfl⟩)) hS1 hl
  · rw [gA_sA, if_neg (fun z => hq z.1)]
  · rfl
theorem V_last (C : Cx p l s m args meth c D kA b t0 nL own nm cc) {a j n : Nat} {z x : Int} (ho : gK X a = 22) (hN : gN X a = n) (hj : j < n) (hn : n ≤ 2147483647) (hz : z = (j : Int))  (d : DI cc pc (.lastore) 1 pc')
    (k : V p l e R s m args below meth c D kA b nL (cells) (slots) (Q) (sA X a j x) (pc') (lv) (st)) : V p l e R s m args below meth c D kA b nL (cells) (slots) (Q) X (pc) (lv) (lo x :: iv z :: rv (some a) :: st) := by
  obtain ⟨hx, hb, hml, hown, hts, hlk, hK, hF, hst, hbs, hnm⟩ := C
  obtain ⟨d, rfl⟩ := d
  subst hz
  intro H locs ls hW hS hl
  subst hN
  have hcl : (zI (j : Int)).toNatClampNeg = j := zI_clamp (by omega)
  obtain ⟨i, hi⟩ := hW.at (cE_22 ho) (by omega)
  obtain ⟨hP, hD⟩ := hW.PD
  refine va_last (D := D) (cl := vwCl) hx hb hK hP hD hS i 2 hi rfl (zI_in (by omega) (by omega) (by omega)) d (fun H1 locs1 hP1 _ hS1 => ?_)
  rw [hcl] at hP1
  have e1 : vp_updL (fun i => zL (gA X a i)) j (zL x) = fun i => zL (gA (sA X a j x) a i) := by
    funext q
    rw [gA_sA]
    by_cases hq : q = j <;> simp [vp_updL, hq]
  rw [e1] at hP1
  refine k H1 locs1 ls (hW.set hbs hS hS1 hi hP1 (cE_22 (by exact ho)) rfl (fun q hq => ⟨cE_ext rfl (fun _ => rfl) (fun _ => rfl) rfl (fun g => ?_) (fun g => ?_), rfl⟩)) hS1 hl
  · rw [gA_sA, if_neg (fun z => hq z.1)]
  · rfl
theorem V_aastN (C : Cx p l s m args meth c D kA b t0 nL own nm cc) {a j n : Nat} {z : Int} (ho : gK X a = 23) (hN : gN X a = n) (hj : j < n) (hn : n ≤ 2147483647) (hz : z = (j : Int)) (d : DI cc pc (.aastore) 1 pc')
    (k : V p l e R s m args below meth c D kA b nL (cells) (slots) (Q) (sO X a j none) (pc') (lv) (st)) : V p l e R s m args below meth c D kA b nL (cells) (slots) (Q) X (pc) (lv) (rv none :: iv z :: rv (some a) :: st) := by
  obtain ⟨hx, hb, hml, hown, hts, hlk, hK, hF, hst, hbs, hnm⟩ := C
  obtain ⟨d, rfl⟩ := d
  subst hz
  intro H locs ls hW hS hl
  subst hN
  have hcl : (zI (j : Int)).toNatClampNeg = j := zI_clamp (by omega)
  obtain ⟨i, hi⟩ := hW.at (cE_23 (Or.inl ho)) (by omega)
  obtain ⟨hP, hD⟩ := hW.PD
  refine va_astqN (D := D) (cl := vwCl) hx hb hK hP hD hS i 3 hi rfl (zI_in (by omega) (by omega) (by omega)) d (fun H1 locs1 hP1 _ hS1 => ?_)
  rw [hcl] at hP1
  have e1 : va_up (gO X a) j none = gO (sO X a j none) a := by
    funext q
    rw [gO_sO]
    by_cases hq : q = j <;> simp [va_up, hq]
  rw [e1] at hP1
  refine k H1 locs1 ls (hW.set hbs hS hS1 hi hP1 (cE_23 (Or.inl (by exact ho))) rfl (fun q hq => ⟨cE_ext rfl (fun _ => rfl) (fun _ => rfl) rfl (fun g => ?_) (fun g => ?_), rfl⟩)) hS1 hl
  · rfl
  · rw [gO_sO, if_neg (fun z => hq z.1)]
theorem V_any (C : Cx p l s m args meth c D kA b t0 nL own nm cc) {H : Heap} {v ci N : Nat} {Cn : String} {T : u_T} {ty : Nat → FieldType} (cl : CL ci Cn T N ty) (hcast : (Cond.castable Cn "java/lang/Object") ∈ NW) (hv : gK X v = ci + 1) (hW : wd D kA b X H) : va_Any "java/lang/Object" s H v := by
  obtain ⟨hx, hb, hml, hown, hts, hlk, hK, hF, hst, hbs, hnm⟩ := C
  obtain ⟨hc, hci, hnf, hty, hnmm, hin, hdf⟩ := cl
  refine va_rAny hK (hW.P1 (cE_obj hv hci)) (q0 := 0) rfl hc (fun comp c0 h1 h2 => ?_)
  obtain ⟨c1, t1, g1, g2, g3⟩ := Cond.castable_spec (va_Nw.use (A := args) rfl (hF.2.2.2.2.2.2.2.1 _ hcast))
  cases h2.symm.trans g1
  cases h1.symm.trans g2
  exact g3
theorem V_aast (C : Cx p l s m args meth c D kA b t0 nL own nm cc) {a j n v : Nat} {z : Int} (ho : gK X a = 23) (hN : gN X a = n) (hj : j < n) (hn : n ≤ 2147483647) (hz : z = (j : Int)) (hv : ∀ H, wd D kA b X H → va_Any "java/lang/Object" s H v) (d : DI cc pc (.aastore) 1 pc')
    (k : V p l e R s m args below meth c D kA b nL (cells) (slots) (Q) (sO X a j (some v)) (pc') (lv) (st)) : V p l e R s m args below meth c D kA b nL (cells) (slots) (Q) X (pc) (lv) (rv (some v) :: iv z :: rv (some a) :: st) := by
  obtain ⟨hx, hb, hml, hown, hts, hlk, hK, hF, hst, hbs, hnm⟩ := C
  obtain ⟨d, rfl⟩ := d
  subst hz
  intro H locs ls hW hS hl
  subst hN
  have hcl : (zI (j : Int)).toNatClampNeg = j := zI_clamp (by omega)
  obtain ⟨i, hi⟩ := hW.at (cE_23 (Or.inl ho)) (by omega)
  obtain ⟨hP, hD⟩ := hW.PD
  refine va_astqM (D := D) (cl := vwCl) hx hb hK hP hD hS i 3 hi rfl (hv H hW) (zI_in (by omega) (by omega) (by omega)) d (fun H1 locs1 hP1 _ hS1 => ?_)
  rw [hcl] at hP1
  have e1 : va_up (gO X a) j (some v) = gO (sO X a j (some v)) a := by
    funext q
    rw [gO_sO]
    by_cases hq : q = j <;> simp [va_up, hq]
  rw [e1] at hP1
  refine k H1 locs1 ls (hW.set hbs hS hS1 hi hP1 (cE_23 (Or.inl (by exact ho))) rfl (fun q hq => ⟨cE_ext rfl (fun _ => rfl) (fun _ => rfl) rfl (fun g => ?_) (fun g => ?_), rfl⟩)) hS1 hl
  · rfl
  · rw [gO_sO, if_neg (fun z => hq z.1)]
/-- entry idx of own's constants is the class ci, to be made -/
def KN (own : String) (idx ci : Nat) (Cn : String) (N : Nat) : Prop := Cond.classLink own idx Cn ∈ TBL ∧ Cond.instantiable Cn N ∈ TBL ∧ Cond.initialized Cn ∈ TBL
theorem V_new (C : Cx p l s m args meth c D kA b t0 nL own nm cc) {ci N idx t : Nat} {Cn : String} {T : u_T} {ty : Nat → FieldType} (cl : CL ci Cn T N ty) (kn : KN own idx ci Cn N) (ht : ci + 1 = t) (hc1 : cells + 1 ≤ R.cells) (hs1 : slots + N ≤ R.slots) (d : DI cc pc (.new idx) 3 pc')
    (k : ∀ q : Nat, gK X q = 0 → b ≤ q → V p l e R s m args below meth c D kA b nL (cells + 1) (slots + N) (Q) (alO X q t) (pc') (lv) (rv (some q) :: st)) : V p l e R s m args below meth c D kA b nL (cells) (slots) (Q) X (pc) (lv) (st) := by
  obtain ⟨hx, hb, hml, hown, hts, hlk, hK, hF, hst, hbs, hnm⟩ := C
  obtain ⟨hc, hci, hnf, hty, hnmm, hin, hdf⟩ := cl
  obtain ⟨k1, k2, k3⟩ := kn
  obtain ⟨d, rfl⟩ := d
  subst ht
  intro H locs ls hW hS hl
  obtain ⟨hP, hD⟩ := hW.PD
  have hfs : ∀ j, j < N → defaultValue (ty j) = vp_V ((List.range (nF ci)).map fun k => if isR ci k then rv none else iv 0) j := by
    intro j hj
    rw [hdf j hj]
    unfold vp_V
    rw [List.getD_eq_getElem?_getD, List.getElem?_map, List.getElem?_range (by omega)]
    show _ = (if isR ci j = true then rv none else iv 0)
    cases isR ci j <;> rfl
  refine va_new (D := D) (cl := vwCl) (ci := ci) (N := N) hx hb hts hin ty hty hown (hts _ k1) (hts _ k2) (hts _ k3) hK hP hD hS (fun q hq => Nat.le_trans hbs hq) hc hfs hc1 hs1 d (fun q H1 hP1 hD1 hS1 => ?_)
  obtain ⟨h0, hbq, hp⟩ := hW.push (Y := alO X q (ci + 1)) hbs hS hS1 hP1 hD1
  have hKq : gK (alO X q (ci + 1)) q = ci + 1 := if_pos rfl
  have hfl : fl ci (alO X q (ci + 1)) q = (List.range (nF ci)).map fun k => if isR ci k then rv none else iv 0 := by
    unfold fl
    refine List.map_congr_left fun j _ => ?_
    have e1 : gP (alO X q (ci + 1)) (64 * ci + j) q = none := if_pos rfl
    have e2 : gI (alO X q (ci + 1)) (64 * ci + j) q = 0 := if_pos rfl
    rw [e1, e2]
  refine k q h0 hbq H1 locs ls (hp (by rw [cE_obj hKq hci, hfl]) (by omega) (fun r hr => ⟨cE_ext (if_neg hr) (fun _ => if_neg hr) (fun _ => if_neg hr) rfl (fun _ => rfl) (fun _ => rfl), if_neg hr⟩)) hS1 hl
theorem V_newI (C : Cx p l s m args meth c D kA b t0 nL own nm cc) {n : Nat} {z : Int} (hz : z = (n : Int)) (hn : n ≤ 100000) (harr : Cond.arrayClass (newarray.typeOf .int) ∈ TBL) (hc1 : cells + 1 ≤ R.cells) (hs1 : slots + n ≤ R.slots) (d : DI cc pc (.newarray .int) 2 pc')
    (k : ∀ q : Nat, gK X q = 0 → b ≤ q → V p l e R s m args below meth c D kA b nL (cells + 1) (slots + n) (Q) (alA X q 20 n) (pc') (lv) (rv (some q) :: st)) : V p l e R s m args below meth c D kA b nL (cells) (slots) (Q) X (pc) (lv) (iv z :: st) := by
  obtain ⟨hx, hb, hml, hown, hts, hlk, hK, hF, hst, hbs, hnm⟩ := C
  obtain ⟨d, rfl⟩ := d
  subst hz
  intro H locs ls hW hS hl
  obtain ⟨hP, hD⟩ := hW.PD
  have hcl : (zI (n : Int)).toNatClampNeg = n := zI_clamp (by omega)
  have hnn : ¬ zI (n : Int) < 0 := fun h => by
    have := (zI_lt (by omega) rng_0).mp h
    omega
  refine va_newa (D := D) (cl := vwCl) (atype := .int) (ty := .int) (N' := n) (a0 := (n, .inl (fun _ => 0))) hx hb (hts _ harr) rfl hK hP hD hS (fun q hq => Nat.le_trans hbs hq) (fun cA => by first | rfl | (unfold vp_cell; rfl)) hnn hcl (by show n * 4 ≤ 536870912; omega) hc1 hs1 d (fun q cA H1 hK1 hP1 hD1 hS1 => ?_)
  have hcA : cA = kA 0 := by
    have h1 := (hK1.2 4 (cA, .int) rfl).2
    have h2 := (hK.2 0 (kA 0, .int) rfl).2
    exact Option.some.inj (h1.symm.trans h2)
  subst hcA
  obtain ⟨h0, hbq, hp⟩ := hW.push (Y := alA X q 20 n) hbs hS hS1 hP1 hD1
  have hKq : gK (alA X q 20 n) q = 20 := if_pos rfl
  refine k q h0 hbq H1 locs ls (hp ?_ (by omega) (fun r hr => ⟨cE_ext (if_neg hr) (fun _ => rfl) (fun _ => rfl) (if_neg hr) (fun _ => if_neg hr) (fun _ => if_neg hr), if_neg hr⟩)) hS1 hl
  rw [cE_20 hKq]
  have e1 : gN (alA X q 20 n) q = n := if_pos rfl
  have e2 : ∀ i, gA (alA X q 20 n) q i = 0 := fun i => if_pos rfl
  rw [e1]
  simp only [e2]
  first | rfl | done
theorem V_newZ (C : Cx p l s m args meth c D kA b t0 nL own nm cc) {n : Nat} {z : Int} (hz : z = (n : Int)) (hn : n ≤ 100000) (harr : Cond.arrayClass (newarray.typeOf .boolean) ∈ TBL) (hc1 : cells + 1 ≤ R.cells) (hs1 : slots + n ≤ R.slots) (d : DI cc pc (.newarray .boolean) 2 pc')
    (k : ∀ q : Nat, gK X q = 0 → b ≤ q → V p l e R s m args below meth c D kA b nL (cells + 1) (slots + n) (Q) (alA X q 21 n) (pc') (lv) (rv (some q) :: st)) : V p l e R s m args below meth c D kA b nL (cells) (slots) (Q) X (pc) (lv) (iv z :: st) := by
  obtain ⟨hx, hb, hml, hown, hts, hlk, hK, hF, hst, hbs, hnm⟩ := C
  obtain ⟨d, rfl⟩ := d
  subst hz
  intro H locs ls hW hS hl
  obtain ⟨hP, hD⟩ := hW.PD
  have hcl : (zI (n : Int)).toNatClampNeg = n := zI_clamp (by omega)
  have hnn : ¬ zI (n : Int) < 0 := fun h => by
    have := (zI_lt (by omega) rng_0).mp h
    omega
  refine va_newa (D := D) (cl := vwCl) (atype := .boolean) (ty := .boolean) (N' := n) (a0 := (n, .inl (fun _ => 0))) hx hb (hts _ harr) rfl hK hP hD hS (fun q hq => Nat.le_trans hbs hq) (fun cA => by first | rfl | (unfold vp_cell; rfl)) hnn hcl (by show n * 1 ≤ 536870912; omega) hc1 hs1 d (fun q cA H1 hK1 hP1 hD1 hS1 => ?_)
  have hcA : cA = kA 1 := by
    have h1 := (hK1.2 4 (cA, .boolean) rfl).2
    have h2 := (hK.2 1 (kA 1, .boolean) rfl).2
    exact Option.some.inj (h1.symm.trans h2)
  subst hcA
  obtain ⟨h0, hbq, hp⟩ := hW.push (Y := alA X q 21 n) hbs hS hS1 hP1 hD1
  have hKq : gK (alA X q 21 n) q = 21 := if_pos rfl
  refine k q h0 hbq H1 locs ls (hp ?_ (by omega) (fun r hr => ⟨cE_ext (if_neg hr) (fun _ => rfl) (fun _ => rfl) (if_neg hr) (fun _ => if_neg hr) (fun _ => if_neg hr), if_neg hr⟩)) hS1 hl
  rw [cE_21 hKq]
  have e1 : gN (alA X q 21 n) q = n := if_pos rfl
  have e2 : ∀ i, gA (alA X q 21 n) q i = 0 := fun i => if_pos rfl
  rw [e1]
  simp only [e2]
  first | rfl | done
theorem V_newL (C : Cx p l s m args meth c D kA b t0 nL own nm cc) {n : Nat} {z : Int} (hz : z = (n : Int)) (hn : n ≤ 100000) (harr : Cond.arrayClass (newarray.typeOf .long) ∈ TBL) (hc1 : cells + 1 ≤ R.cells) (hs1 : slots + n ≤ R.slots) (d : DI cc pc (.newarray .long) 2 pc')
    (k : ∀ q : Nat, gK X q = 0 → b ≤ q → V p l e R s m args below meth c D kA b nL (cells + 1) (slots + n) (Q) (alA X q 22 n) (pc') (lv) (rv (some q) :: st)) : V p l e R s m args below meth c D kA b nL (cells) (slots) (Q) X (pc) (lv) (iv z :: st) := by
  obtain ⟨hx, hb, hml, hown, hts, hlk, hK, hF, hst, hbs, hnm⟩ := C
  obtain ⟨d, rfl⟩ := d
  subst hz
  intro H locs ls hW hS hl
  obtain ⟨hP, hD⟩ := hW.PD
  have hcl : (zI (n : Int)).toNatClampNeg = n := zI_clamp (by omega)
  have hnn : ¬ zI (n : Int) < 0 := fun h => by
    have := (zI_lt (by omega) rng_0).mp h
    omega
  refine va_newa (D := D) (cl := vwCl) (atype := .long) (ty := .long) (N' := n) (a0 := (n, .inr (.inl (fun _ => 0)))) hx hb (hts _ harr) rfl hK hP hD hS (fun q hq => Nat.le_trans hbs hq) (fun cA => by first | rfl | (unfold vp_cell; rfl)) hnn hcl (by show n * 8 ≤ 536870912; omega) hc1 hs1 d (fun q cA H1 hK1 hP1 hD1 hS1 => ?_)
  have hcA : cA = kA 2 := by
    have h1 := (hK1.2 4 (cA, .long) rfl).2
    have h2 := (hK.2 2 (kA 2, .long) rfl).2
    exact Option.some.inj (h1.symm.trans h2)
  subst hcA
  obtain ⟨h0, hbq, hp⟩ := hW.push (Y := alA X q 22 n) hbs hS hS1 hP1 hD1
  have hKq : gK (alA X q 22 n) q = 22 := if_pos rfl
  refine k q h0 hbq H1 locs ls (hp ?_ (by omega) (fun r hr => ⟨cE_ext (if_neg hr) (fun _ => rfl) (fun _ => rfl) (if_neg hr) (fun _ => if_neg hr) (fun _ => if_neg hr), if_neg hr⟩)) hS1 hl
  rw [cE_22 hKq]
  have e1 : gN (alA X q 22 n) q = n := if_pos rfl
  have e2 : ∀ i, gA (alA X q 22 n) q i = 0 := fun i => if_pos rfl
  rw [e1]
  simp only [e2]
  first | rfl | done
theorem V_newO (C : Cx p l s m args meth c D kA b t0 nL own nm cc) {n idx : Nat} {z : Int} (hz : z = (n : Int)) (hn : n ≤ 100000) (k1 : Cond.classLink own idx "java/lang/Object" ∈ TBL) (hc1 : cells + 1 ≤ R.cells) (hs1 : slots + n ≤ R.slots) (d : DI cc pc (.anewarray idx) 3 pc')
    (k : ∀ q : Nat, gK X q = 0 → b ≤ q → V p l e R s m args below meth c D kA b nL (cells + 1) (slots + n) (Q) (alA X q 23 n) (pc') (lv) (rv (some q) :: st)) : V p l e R s m args below meth c D kA b nL (cells) (slots) (Q) X (pc) (lv) (iv z :: st) := by
  obtain ⟨hx, hb, hml, hown, hts, hlk, hK, hF, hst, hbs, hnm⟩ := C
  obtain ⟨d, rfl⟩ := d
  subst hz
  intro H locs ls hW hS hl
  obtain ⟨hP, hD⟩ := hW.PD
  have hcl : (zI (n : Int)).toNatClampNeg = n := zI_clamp (by omega)
  have hnn : ¬ zI (n : Int) < 0 := fun h => by
    have := (zI_lt (by omega) rng_0).mp h
    omega
  refine va_newq (D := D) (cl := vwCl) (N' := n) hx hb hown (hts _ k1) hF.2.2.2.2.2.2.2.2 hK hP hD hS (fun q hq => Nat.le_trans hbs hq) hnn hcl (by omega) hc1 hs1 d (fun q cA H1 hK1 hP1 hD1 hS1 => ?_)
  have hcA : cA = kA 3 := by
    obtain ⟨_, _, _, _, _, h1⟩ := (hK1.2 4 (cA, .object "java/lang/Object") rfl).2
    obtain ⟨_, _, _, _, _, h2⟩ := (hK.2 3 (kA 3, .object "java/lang/Object") rfl).2
    exact Option.some.inj (h1.symm.trans h2)
  subst hcA
  obtain ⟨h0, hbq, hp⟩ := hW.push (Y := alA X q 23 n) hbs hS hS1 hP1 hD1
  have hKq : gK (alA X q 23 n) q = 23 := if_pos rfl
  refine k q h0 hbq H1 locs ls (hp ?_ (by omega) (fun r hr => ⟨cE_ext (if_neg hr) (fun _ => rfl) (fun _ => rfl) (if_neg hr) (fun _ => if_neg hr) (fun _ => if_neg hr), if_neg hr⟩)) hS1 hl
  rw [cE_23 (Or.inl hKq)]
  have e1 : gN (alA X q 23 n) q = n := if_pos rfl
  have e2 : gO (alA X q 23 n) q = fun _ => none := funext fun i => if_pos rfl
  rw [e1, e2]
end VH
end
section
/-! entry, ends, calls, throws -/
section VC
variable {p : Program} {l : Launch} {e : Env} {R : Room} {s : State} {m : MethodId} {args : Array Value} {below : List Frame} {meth : Method} {c : Code}
variable {D : va_G} {kA : Nat → ClassId} {b t0 nL cells slots : Nat} {Q : State → Prop} {own nm : String} {cc : ByteArray} {X : Mm} {pc pc' tgt : Nat} {lv : List (Option Value)} {st : List Value}

variable {y : MethodName} {cy : ByteArray} {n fr lc mc ms : Nat} {ret : Option FieldType} {post : Option Value → Mm → Prop} {px : String → Mm → Prop}
theorem lvO_entry {av : List Value} {nL : Nat} (hn : av.length ≤ nL) (hc : ∀ v ∈ av, v.category = 1) : lvO ((lg_sl av ++ List.replicate (nL - (lg_sl av).length) Slot.unset).toArray) nL (av.map some ++ List.replicate (nL - av.length) none) := by
  have e : (lg_sl av).length = av.length := by
    clear hn
    induction av with
    | nil => rfl
    | cons v vs ih =>
      have h1 := hc v List.mem_cons_self
      have h2 := ih (fun x hx => hc x (List.mem_cons_of_mem _ hx))
      simp [lg_sl, h1] at h2 ⊢
      exact h2
  have h := lv_entry av (n := nL) (by omega)
  refine ⟨h.1, h.2.1, fun i v hi => ?_⟩
  by_cases hl : i < av.length
  · rw [List.getElem?_append_left (by simpa using hl), List.getElem?_map] at hi
    have h3 : av[i]? = some v := by
      cases hh : av[i]? with
      | none => rw [hh] at hi; simp at hi
      | some w => rw [hh] at hi; simp at hi; rw [hi]
    have h4 := lv_args_mem av 0 i v hc h3
    rw [Nat.zero_add] at h4
    exact h.2.2 (i, v) h4
  · rw [List.getElem?_append_right (by simpa using hl)] at hi
    rw [List.getElem?_replicate] at hi
    split at hi <;> simp at hi
theorem Ct_mk {av : List Value} (hl : l.stackTraces = false) (hy : plainName y.cls = true) (hn : av.length ≤ n) (hc : ∀ v ∈ av, v.category = 1)
    (body : ∀ (p : Program) (e : Env) (s : State) (m : MethodId) (args : Array Value) (below : List Frame) (meth : Method) (c : Code), Cx p l s m args meth c D kA b t0 n y.cls y.name cy → meth.sig.returnType = ret → (∀ x ∈ c.exceptionTable.toList, False) → V p l e { frames := fr, cells := mc, slots := ms, locals := lc } s m args below meth c D kA b n 0 0 (vx_MQ below (Qk D kA b post) (Xk D kA b px) args s mc ms (Ab b)) X 0 (av.map some ++ List.replicate (n - av.length) none) []) : Ct l D kA b t0 y cy n ret fr lc av X mc ms post px := by
  refine vx_ofW (cc := cy) (maxL := n) (ret := ret) hy rfl ?_
  intro p e s m args below meth c s₁ B hml ht hv
  obtain ⟨rfl, hW, hK, hF, hb⟩ := hv
  have hts := atoms_spec (ws := .code y cy n ret :: TBL) B.pre
  rw [lg_entry_eq]
  exact body p e s m _ below meth c ⟨B.exec, B.bytes, hml, findClass_of_methodNamed B.named, fun w hw => hts w (List.mem_cons_of_mem _ hw), B.notSynchronized, hK, hF, hl, hb, (name_of_methodNamed B.named B.method).1⟩ B.returns ht s.heap [] _ hW va_S.rf (lvO_entry hn hc)

theorem V_iret (C : Cx p l s m args meth c D kA b t0 nL own nm cc) {z : Int} (hc1 : cells ≤ mc) (hs1 : slots ≤ ms) (hp : post (some (iv z)) X) (hr : meth.sig.returnType = some .int) (d : DI cc pc .ireturn 1 pc') : V p l e R s m args below meth c D kA b nL (cells) (slots) ((vx_MQ below (Qk D kA b post) (Xk D kA b px) args s mc ms (Ab b))) X (pc) (lv) (iv z :: []) := by
  obtain ⟨hx, hb, hml, hown, hts, hlk, hK, hF, hst, hbs, hnm⟩ := C
  obtain ⟨d, rfl⟩ := d
  intro H locs ls hW hS hl
  refine W.widen hc1 hs1 (vx_ret ?_)
  exact W.iret hx hb hr (fun t ht hw => ⟨⟨_, X, rfl, hp, by rw [ht]; exact hW⟩, hS.F ht⟩) (fun q hq => hS.2.2 q hq) d hlk
theorem V_zret (C : Cx p l s m args meth c D kA b t0 nL own nm cc) {z : Int} (hc1 : cells ≤ mc) (hs1 : slots ≤ ms) (hp : post (some (iv z)) X) (hr : meth.sig.returnType = some .boolean) (hz : z = 0 ∨ z = 1) (d : DI cc pc .ireturn 1 pc') : V p l e R s m args below meth c D kA b nL (cells) (slots) ((vx_MQ below (Qk D kA b post) (Xk D kA b px) args s mc ms (Ab b))) X (pc) (lv) (iv z :: []) := by
  obtain ⟨hx, hb, hml, hown, hts, hlk, hK, hF, hst, hbs, hnm⟩ := C
  obtain ⟨d, rfl⟩ := d
  intro H locs ls hW hS hl
  refine W.widen hc1 hs1 (vx_ret ?_)
  exact W.zret hx hb hr (by rcases hz with rfl | rfl <;> rfl) (fun t ht hw => ⟨⟨_, X, rfl, hp, by rw [ht]; exact hW⟩, hS.F ht⟩) (fun q hq => hS.2.2 q hq) d hlk
theorem V_vret (C : Cx p l s m args meth c D kA b t0 nL own nm cc)  (hc1 : cells ≤ mc) (hs1 : slots ≤ ms) (hp : post none X) (hr : meth.sig.returnType = none) (d : DI cc pc .return_ 1 pc') : V p l e R s m args below meth c D kA b nL (cells) (slots) ((vx_MQ below (Qk D kA b post) (Xk D kA b px) args s mc ms (Ab b))) X (pc) (lv) ([]) := by
  obtain ⟨hx, hb, hml, hown, hts, hlk, hK, hF, hst, hbs, hnm⟩ := C
  obtain ⟨d, rfl⟩ := d
  intro H locs ls hW hS hl
  refine W.widen hc1 hs1 (vx_ret ?_)
  exact W.vret hx hb hr (fun t ht hw => ⟨⟨_, X, rfl, hp, by rw [ht]; exact hW⟩, hS.F ht⟩) (fun q hq => hS.2.2 q hq) d hlk
theorem V_aret (C : Cx p l s m args meth c D kA b t0 nL own nm cc) {r : Option Nat} {rt : FieldType} (hc1 : cells ≤ mc) (hs1 : slots ≤ ms) (hp : post (some (rv r)) X) (hr : meth.sig.returnType = some rt) (hrt : (∃ n, rt = .object n) ∨ ∃ t, rt = .array t) (d : DI cc pc .areturn 1 pc') : V p l e R s m args below meth c D kA b nL (cells) (slots) ((vx_MQ below (Qk D kA b post) (Xk D kA b px) args s mc ms (Ab b))) X (pc) (lv) (rv r :: []) := by
  obtain ⟨hx, hb, hml, hown, hts, hlk, hK, hF, hst, hbs, hnm⟩ := C
  obtain ⟨d, rfl⟩ := d
  intro H locs ls hW hS hl
  refine W.widen hc1 hs1 (vx_ret ?_)
  exact W.aret hx hb hr hrt (by cases r with | none => exact Or.inl rfl | some x => exact Or.inr ⟨x, rfl⟩) (fun t ht hw => ⟨⟨_, X, rfl, hp, by rw [ht]; exact hW⟩, hS.F ht⟩) (fun q hq => hS.2.2 q hq) d hlk
theorem V_widen {k2 n2 : Nat} (h1 : cells ≤ k2) (h2 : slots ≤ n2) (k : V p l e R s m args below meth c D kA b nL (k2) (n2) (Q) X (pc) (lv) (st)) : V p l e R s m args below meth c D kA b nL (cells) (slots) (Q) X (pc) (lv) (st) := fun H locs ls hW hS hl => W.widen h1 h2 (k H locs ls hW hS hl)
/-- the exception leaves the method -/
theorem VX_out (C : Cx p l s m args meth c D kA b t0 nL own nm cc) {E : String} (hout : ∀ x ∈ c.exceptionTable.toList, False) (hc1 : cells ≤ mc) (hs1 : slots ≤ ms) (hp : px E X) : VX p l e R s m args below meth c D kA b nL (cells) (slots) ((vx_MQ below (Qk D kA b post) (Xk D kA b px) args s mc ms (Ab b))) X (pc) (lv) (E) := by
  obtain ⟨hx, hb, hml, hown, hts, hlk, hK, hF, hst, hbs, hnm⟩ := C
  intro H locs ls rest q ce hW hS hl h1 h2 h3
  exact vx_out (fun x hx => (hout x hx).elim) hlk h1 h2 h3 (fun t ht _ => ⟨⟨X, hp, by rw [ht]; exact hW⟩, hS.F ht⟩) (fun q hq => hS.2.2 q hq) hc1 hs1
/-- behind a call -/
theorem V_runs (C : Cx p l s m args meth c D kA b t0 nL own nm cc) {st0 : List Value} {mc ms : Nat} {a : Array Value} (hr : ∀ (H : Heap) (locs : List Loc) (ls : Array Slot), wd D kA b X H → va_S (Ab b) s.heap H locs → lvO ls nL lv → vx_Run p l e R s m args below meth c H locs cells slots mc ms (F0 m pc ls st0) st (Qk D kA b post a) (Xk D kA b px) (Ab b))
    (kx : ∀ (E : String) (Y : Mm), px E Y → VX p l e R s m args below meth c D kA b nL (cells + mc) (slots + ms) (Q) Y (pc) (lv) (E)) (kk : ∀ (v : Option Value) (Y : Mm), post v Y → V p l e R s m args below meth c D kA b nL (cells + mc) (slots + ms) (Q) Y ((pc + 3)) (lv) (v.toList ++ st)) : V p l e R s m args below meth c D kA b nL (cells) (slots) (Q) X (pc) (lv) (st0) := by
  obtain ⟨hx, hb, hml, hown, hts, hlk, hK, hF, hst, hbs, hnm⟩ := C
  intro H locs ls hW hS hl T hT X9
  rcases hr H locs ls hW hS hl T hT X9 with ⟨v, st₀, t, T', L, h0, X', hL, e1, e2, ⟨⟨v2, Y, hv, hp, hW2⟩, hF2⟩, st⟩ | ⟨q, st₀, t, T', L, E, ce, h0, X', hL, e1, e2, ⟨⟨Y, hp, hW2⟩, hF2⟩, hce, hcv, hcl, st⟩
  · cases hv
    obtain ⟨k1, k2, k3⟩ := vx_keep h0 e1 hS (fun _ _ h => h) (fun _ h => h) hL hF2
    obtain ⟨t2, a1, b1⟩ := kk v Y hp T'.heap (locs ++ L) ls (by rw [e1]; exact hW2) k3 hl T' rfl X'
    exact ⟨t2, st t2 a1, b1⟩
  · obtain ⟨k1, k2, k3⟩ := vx_keep h0 e1 hS (fun _ _ h => h) (fun _ h => h) hL hF2
    obtain ⟨t2, a1, b1⟩ := kx E Y hp T'.heap (locs ++ L) ls _ q ce (by rw [e1]; exact hW2) k3 hl (by rw [e1]; exact hce) hcv hcl T' rfl X'
    exact ⟨t2, st.trans a1, b1⟩
theorem Pw_blind {av : List Value} : FrameBlind (va_Pc av (Pw D kA b t0 X)) := fun a U g mk q => by
  obtain ⟨q0, q1, q2, q3, q4⟩ := q
  exact ⟨q0, q1, va_K.moved (u := U) (U := U.calling g mk a) (Vm.Alike.refl U.vm) q2, q3.calling g mk a, q4⟩
theorem Pw_at (C : Cx p l s m args meth c D kA b t0 nL own nm cc) {H : Heap} {locs : List Loc} (hW : wd D kA b X H) (hS : va_S (Ab b) s.heap H locs) (U : State) (hU : U.heap = H) (hw : s.WarmedH U.vm) : Pw D kA b t0 X U := by
  obtain ⟨hx, hb, hml, hown, hts, hlk, hK, hF, hst, hbs, hnm⟩ := C
  refine ⟨by rw [hU]; exact hW, hK.moved hw.alike, ?_, by rw [hU]; exact Nat.le_trans hbs hS.1⟩
  rw [hU]
  exact (hF.kept (fun a h1 h2 => hS.2.1 a h1 h2)).warm hw
theorem hts_in {own own9 : String} {index k : Nat} {rm : Room} (C : Cx p l s m args meth c D kA b t0 nL own9 nm cc) (hrc : rm.cells = mc) (hrs : rm.slots = ms) (hcode : Cond.code y cy n ret ∈ TBL) (hini : Cond.initialized y.cls ∈ TBL) (hl : Cond.methodLink own index y ∈ TBL) (hd : y.cls ≠ "java/lang/invoke/MethodHandle" ∧ y.cls ≠ "java/lang/invoke/VarHandle" ∧ (parseMethodDescriptor y.desc).map (fun d => d.parameters.length) = some k) (hR : rm.frames + 1 ≤ R.frames ∧ 8 + (n + 11) + rm.locals ≤ R.locals) : CallB R s args own index y cy n ret (.code y cy n ret :: TBL) rm mc ms k := by
  obtain ⟨hx, hb, hml, hown, hts, hlk, hK, hF, hst, hbs, hnm⟩ := C
  exact callB_of (Ts := TBL) k hts (TBL_good (fun w h => (List.mem_cons.mp h).elim (fun e => by rw [e]; exact hcode) (fun h => h))) rfl hrc hrs (hts _ hini) (hts _ hl) hd hR
/-- entry index of own's constants is the method y, called on an object of class ci; static; a constructor; a nest mate's private constructor -/
def KV (own : String) (index ci : Nat) (y : MethodName) (cy : ByteArray) (n : Nat) (ret : Option FieldType) (k : Nat) : Prop := (∃ T N, vwCl[ci]? = some (y.cls, T, N) ∧ ci < 19) ∧ Cond.methodLink own index y ∈ TBL ∧ Cond.instanceMethod y ∈ TBL ∧ Cond.selects y.cls y y ∈ TBL ∧ Cond.initialized y.cls ∈ TBL ∧ Cond.code y cy n ret ∈ TBL ∧ y.cls ≠ "java/lang/invoke/MethodHandle" ∧ y.cls ≠ "java/lang/invoke/VarHandle" ∧ (parseMethodDescriptor y.desc).map (fun d => d.parameters.length) = some k
def KS (own : String) (index : Nat) (y : MethodName) (cy : ByteArray) (n : Nat) (ret : Option FieldType) (k : Nat) : Prop := Cond.methodLink own index y ∈ TBL ∧ Cond.static y ∈ TBL ∧ Cond.initialized y.cls ∈ TBL ∧ Cond.code y cy n ret ∈ TBL ∧ y.cls ≠ "java/lang/invoke/MethodHandle" ∧ y.cls ≠ "java/lang/invoke/VarHandle" ∧ (parseMethodDescriptor y.desc).map (fun d => d.parameters.length) = some k
def KI (own : String) (index : Nat) (y : MethodName) (cy : ByteArray) (n : Nat) (k : Nat) : Prop := Cond.methodLink own index y ∈ TBL ∧ Cond.instanceMethod y ∈ TBL ∧ y.name = "<init>" ∧ Cond.initialized y.cls ∈ TBL ∧ Cond.code y cy n none ∈ TBL ∧ y.cls ≠ "java/lang/invoke/MethodHandle" ∧ y.cls ≠ "java/lang/invoke/VarHandle" ∧ (parseMethodDescriptor y.desc).map (fun d => d.parameters.length) = some k
def KM (own host : String) (index : Nat) (y : MethodName) (cy : ByteArray) (n : Nat) (k : Nat) : Prop := Cond.methodLinkNest own index y host ∈ NW ∧ Cond.instanceMethod y ∈ TBL ∧ y.name = "<init>" ∧ Cond.initialized y.cls ∈ TBL ∧ Cond.code y cy n none ∈ TBL ∧ y.cls ≠ "java/lang/invoke/MethodHandle" ∧ y.cls ≠ "java/lang/invoke/VarHandle" ∧ (parseMethodDescriptor y.desc).map (fun d => d.parameters.length) = some k
theorem V_callV (C : Cx p l s m args meth c D kA b t0 nL own nm cc) {st0 As : List Value} {k idx : Nat} {a ci : Nat} (hM : Ct l D kA b t0 y cy n ret fr lc (rv (some a) :: As) X mc ms post px) (kv : KV own idx ci y cy n ret k) (ho : gK X a = ci + 1) (hst0 : st0 = As.reverse ++ rv (some a) :: st) (hn : As.length = k) (hcat : (st.map fun v => v.category).sum ≤ 8) (hR : fr + 1 ≤ R.frames ∧ 8 + (n + 11) + lc ≤ R.locals) (hf : cells + mc ≤ R.cells ∧ slots + ms ≤ R.slots)
    (d : DI cc pc (.invokevirtual idx) 3 pc') (kx : ∀ (E : String) (Y : Mm), px E Y → VX p l e R s m args below meth c D kA b nL (cells + mc) (slots + ms) (Q) Y (pc) (lv) (E)) (kk : ∀ (v : Option Value) (Y : Mm), post v Y → V p l e R s m args below meth c D kA b nL (cells + mc) (slots + ms) (Q) Y (pc') (lv) (v.toList ++ st)) : V p l e R s m args below meth c D kA b nL (cells) (slots) (Q) X (pc) (lv) (st0) := by
  subst hst0
  obtain ⟨⟨T, N, hcl, hci⟩, h1, h2, h3, h4, h5, h6⟩ := kv
  obtain ⟨d, rfl⟩ := d
  refine V_runs C (mc := mc) (ms := ms) (a := (rv (some a) :: As).toArray) (fun H locs ls hW hS hl => ?_) kx kk
  have C2 := C
  obtain ⟨hx, hb, hml, hown, hts, hlk, hK, hF, hst, hbs, hnm⟩ := C
  exact vx_runV (C := y.cls) ⟨hx, hb, hml, hown, hts⟩ hM ⟨hts_in C2 rfl rfl h5 h4 h1 h6 hR, hts _ h2, hts _ h3⟩ ⟨Pw_blind, va_recv hK (hW.P1 (cE_obj ho hci)) (q0 := 0) hcl rfl, fun U hU hw => ⟨rfl, Pw_at C2 hW hS U hU hw⟩⟩ rfl hn hl.1 rfl (lv_room hcat) d hf
theorem V_callS (C : Cx p l s m args meth c D kA b t0 nL own nm cc) {st0 As : List Value} {k idx : Nat}  (hM : Ct l D kA b t0 y cy n ret fr lc As X mc ms post px) (kv : KS own idx y cy n ret k) (hst0 : st0 = As.reverse ++ st) (hn : As.length = k) (hcat : (st.map fun v => v.category).sum ≤ 8) (hR : fr + 1 ≤ R.frames ∧ 8 + (n + 11) + lc ≤ R.locals) (hf : cells + mc ≤ R.cells ∧ slots + ms ≤ R.slots)
    (d : DI cc pc (.invokestatic idx) 3 pc') (kx : ∀ (E : String) (Y : Mm), px E Y → VX p l e R s m args below meth c D kA b nL (cells + mc) (slots + ms) (Q) Y (pc) (lv) (E)) (kk : ∀ (v : Option Value) (Y : Mm), post v Y → V p l e R s m args below meth c D kA b nL (cells + mc) (slots + ms) (Q) Y (pc') (lv) (v.toList ++ st)) : V p l e R s m args below meth c D kA b nL (cells) (slots) (Q) X (pc) (lv) (st0) := by
  subst hst0
  obtain ⟨h1, h2, h4, h5, h6⟩ := kv
  obtain ⟨d, rfl⟩ := d
  refine V_runs C (mc := mc) (ms := ms) (a := As.toArray) (fun H locs ls hW hS hl => ?_) kx kk
  have C2 := C
  obtain ⟨hx, hb, hml, hown, hts, hlk, hK, hF, hst, hbs, hnm⟩ := C
  exact vx_runS ⟨hx, hb, hml, hown, hts⟩ hM ⟨hts_in C2 rfl rfl h5 h4 h1 h6 hR, hts _ h2⟩ ⟨Pw_blind, fun U hU hw => ⟨rfl, Pw_at C2 hW hS U hU hw⟩⟩ rfl hn hl.1 rfl (lv_room hcat) d hf
theorem V_callI (C : Cx p l s m args meth c D kA b t0 nL own nm cc) {st0 As : List Value} {k idx : Nat} {a : Nat} (hM : Ct l D kA b t0 y cy n none fr lc (rv (some a) :: As) X mc ms post px) (kv : KI own idx y cy n k) (hst0 : st0 = As.reverse ++ rv (some a) :: st) (hn : As.length = k) (hcat : (st.map fun v => v.category).sum ≤ 8) (hR : fr + 1 ≤ R.frames ∧ 8 + (n + 11) + lc ≤ R.locals) (hf : cells + mc ≤ R.cells ∧ slots + ms ≤ R.slots)
    (d : DI cc pc (.invokespecial idx) 3 pc') (kx : ∀ (E : String) (Y : Mm), px E Y → VX p l e R s m args below meth c D kA b nL (cells + mc) (slots + ms) (Q) Y (pc) (lv) (E)) (kk : ∀ (v : Option Value) (Y : Mm), post v Y → V p l e R s m args below meth c D kA b nL (cells + mc) (slots + ms) (Q) Y (pc') (lv) (v.toList ++ st)) : V p l e R s m args below meth c D kA b nL (cells) (slots) (Q) X (pc) (lv) (st0) := by
  subst hst0
  obtain ⟨h1, h2, h3, h4, h5, h6⟩ := kv
  obtain ⟨d, rfl⟩ := d
  refine V_runs C (mc := mc) (ms := ms) (a := (rv (some a) :: As).toArray) (fun H locs ls hW hS hl => ?_) kx kk
  have C2 := C
  obtain ⟨hx, hb, hml, hown, hts, hlk, hK, hF, hst, hbs, hnm⟩ := C
  exact vx_runI ⟨hx, hb, hml, hown, hts⟩ hM ⟨hts_in C2 rfl rfl h5 h4 h1 h6 hR, h3, hts _ h2⟩ ⟨Pw_blind, fun U hU hw => ⟨rfl, Pw_at C2 hW hS U hU hw⟩⟩ rfl hn hl.1 rfl (lv_room hcat) d hf
theorem V_callM (C : Cx p l s m args meth c D kA b t0 nL own nm cc) {st0 As : List Value} {k idx : Nat} {a : Nat} {host : String} (hM : Ct l D kA b t0 y cy n none fr lc (rv (some a) :: As) X mc ms post px) (kv : KM own host idx y cy n k) (hst0 : st0 = As.reverse ++ rv (some a) :: st) (hn : As.length = k) (hcat : (st.map fun v => v.category).sum ≤ 8) (hR : fr + 1 ≤ R.frames ∧ 8 + (n + 11) + lc ≤ R.locals) (hf : cells + mc ≤ R.cells ∧ slots + ms ≤ R.slots)
    (d : DI cc pc (.invokespecial idx) 3 pc') (kx : ∀ (E : String) (Y : Mm), px E Y → VX p l e R s m args below meth c D kA b nL (cells + mc) (slots + ms) (Q) Y (pc) (lv) (E)) (kk : ∀ (v : Option Value) (Y : Mm), post v Y → V p l e R s m args below meth c D kA b nL (cells + mc) (slots + ms) (Q) Y (pc') (lv) (v.toList ++ st)) : V p l e R s m args below meth c D kA b nL (cells) (slots) (Q) X (pc) (lv) (st0) := by
  subst hst0
  obtain ⟨h1, h2, h3, h4, h5, h6⟩ := kv
  obtain ⟨d, rfl⟩ := d
  refine V_runs C (mc := mc) (ms := ms) (a := (rv (some a) :: As).toArray) (fun H locs ls hW hS hl => ?_) kx kk
  have C2 := C
  obtain ⟨hx, hb, hml, hown, hts, hlk, hK, hF, hst, hbs, hnm⟩ := C
  exact vx_runIN ⟨hx, hb, hml, hown, hts⟩ hM ⟨va_cnB (Ts := TBL) k hts (TBL_good (fun w h => (List.mem_cons.mp h).elim (fun e => by rw [e]; exact h5) (fun h => h))) rfl rfl rfl (hF.2.2.2.2.2.2.2.1 _ h1) (hts _ h4) h6 hR, h3, hts _ h2⟩ ⟨Pw_blind, fun U hU hw => ⟨rfl, Pw_at C2 hW hS U hU hw⟩⟩ rfl hn hl.1 rfl (lv_room hcat) d hf
/-- 'throw new E("text")' in own: the words -/
def KT (own cls text : String) (ik is ic : Nat) : Prop := Bundle.fit cls = true ∧ (∀ n ∈ ["java/lang/RuntimeException", "java/lang/Exception"], Bundle.fit n = true) ∧ Cond.classLink own ik cls ∈ TBL ∧ Cond.initialized cls ∈ TBL ∧ (own, is, text) ∈ strC ∧ (∀ w ∈ vx_atS own ic cls ["java/lang/RuntimeException", "java/lang/Exception"], w ∈ TBL ∨ w ∈ NW) ∧ (∀ w ∈ Cond.classLink own ik cls :: Cond.initialized cls :: vx_atS own ic cls ["java/lang/RuntimeException", "java/lang/Exception"], vx_ot w = true)
theorem V_throw (C : Cx p l s m args meth c D kA b t0 nL own nm cc) {cls text : String} {ik is ic : Nat} (kt : KT own cls text ik is ic) (hout : ∀ x ∈ c.exceptionTable.toList, False)
    (d0 : decode cc pc = .ok (.new ik, 3)) (d3 : decode cc (pc + 3) = .ok (.dup, 1)) (d4 : decode cc (pc + 4) = .ok (.ldc is, 2)) (d6 : decode cc (pc + 6) = .ok (.invokespecial ic, 3)) (d9 : decode cc (pc + 9) = .ok (.athrow, 1))
    (hRf : 5 < R.frames) (hRl : (st.map fun v => v.category).sum + 82 ≤ R.locals) (hRc : cells + 1 ≤ R.cells) (hRs : slots + 6 ≤ R.slots) (hc1 : cells + 1 ≤ mc) (hs1 : slots + 6 ≤ ms) (hp : px cls X) : V p l e R s m args below meth c D kA b nL (cells) (slots) ((vx_MQ below (Qk D kA b post) (Xk D kA b px) args s mc ms (Ab b))) X (pc) (lv) (st) := by
  obtain ⟨hx, hb, hml, hown, hts, hlk, hK, hF, hst, hbs, hnm⟩ := C
  obtain ⟨k1, k2, k3, k4, k5, k6, k7⟩ := kt
  obtain ⟨⟨f1, f2, -⟩, -, -, f6, -, -, -, f10, -⟩ := hF
  obtain ⟨sa, hsa⟩ := f6 _ k5
  intro H locs ls hW hS hl
  exact vx_throwS (names := ["java/lang/RuntimeException", "java/lang/Exception"]) (A := Ab b) hx hb hst hown k1 k2 (hts _ k3) (hts _ k4) hsa (fun w hw => (k6 w hw).elim (fun h => hts _ h) (fun h => va_Nw.use (NW_on w h) (f10 w h))) k7 f1 f2 hS (by rw [hl.1, hml]) d0 d3 d4 d6 d9 (fun x hx => (hout x hx).elim) hRf hRl hRc hRs hlk (fun t ha hz hq => ⟨⟨X, hp, hW.kept hq⟩, Nat.le_trans hS.1 hz, fun q h1 h2 => (hq q (Nat.lt_of_lt_of_le h1 hS.1)).trans (hS.2.1 q h1 h2)⟩) (fun q hq => hS.2.2 q hq) hc1 hs1
end VC
end
