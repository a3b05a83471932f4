section
-- ===== PART A: goes FIRST, ahead of the names: the tables' words, and 'selects' of the private methods out of them =====
/-- a private method of a class that the tables say can be made, by its rows of tables_1 -/
def lw_okq (q : MethodName × Nat) : Prop := (q.1.cls ≠ "java/lang/invoke/MethodHandle" ∧ q.1.cls ≠ "java/lang/invoke/VarHandle") ∧ Cond.instantiable q.1.cls q.2 ∈ tables_1 ∧ Cond.privateMethod q.1 ∈ tables_1 ∧ Cond.instanceMethod q.1 ∈ tables_1
theorem lw_p0 : lw_okq (⟨"java/lang/Throwable", "fillInStackTrace", "(I)Ljava/lang/Throwable;"⟩, 6) := ⟨⟨by decide +kernel, by decide +kernel⟩, List.mem_of_getElem? (i := 360) (by decide +kernel), List.mem_of_getElem? (i := 358) (by decide +kernel), List.mem_of_getElem? (i := 359) (by decide +kernel)⟩
theorem lw_p1 : lw_okq (⟨"ArchipelagoFerries", "knownShip", "(I)LArchipelagoFerries$Ship;"⟩, 16) := ⟨⟨by decide +kernel, by decide +kernel⟩, List.mem_of_getElem? (i := 18) (by decide +kernel), List.mem_of_getElem? (i := 424) (by decide +kernel), List.mem_of_getElem? (i := 425) (by decide +kernel)⟩
theorem lw_p2 : lw_okq (⟨"ArchipelagoFerries", "knownCrew", "(I)LArchipelagoFerries$Crew;"⟩, 16) := ⟨⟨by decide +kernel, by decide +kernel⟩, List.mem_of_getElem? (i := 18) (by decide +kernel), List.mem_of_getElem? (i := 442) (by decide +kernel), List.mem_of_getElem? (i := 443) (by decide +kernel)⟩
theorem lw_p3 : lw_okq (⟨"ArchipelagoFerries$Span", "tell", "(II)V"⟩, 2) := ⟨⟨by decide +kernel, by decide +kernel⟩, List.mem_of_getElem? (i := 34) (by decide +kernel), List.mem_of_getElem? (i := 446) (by decide +kernel), List.mem_of_getElem? (i := 447) (by decide +kernel)⟩
theorem lw_p4 : lw_okq (⟨"ArchipelagoFerries", "hoursSailed", "(II)I"⟩, 16) := ⟨⟨by decide +kernel, by decide +kernel⟩, List.mem_of_getElem? (i := 18) (by decide +kernel), List.mem_of_getElem? (i := 457) (by decide +kernel), List.mem_of_getElem? (i := 458) (by decide +kernel)⟩
theorem lw_p5 : lw_okq (⟨"ArchipelagoFerries", "knownSailing", "(I)LArchipelagoFerries$Sailing;"⟩, 16) := ⟨⟨by decide +kernel, by decide +kernel⟩, List.mem_of_getElem? (i := 18) (by decide +kernel), List.mem_of_getElem? (i := 461) (by decide +kernel), List.mem_of_getElem? (i := 462) (by decide +kernel)⟩
theorem lw_p6 : lw_okq (⟨"ArchipelagoFerries", "spanFor", "(II)LArchipelagoFerries$Span;"⟩, 16) := ⟨⟨by decide +kernel, by decide +kernel⟩, List.mem_of_getElem? (i := 18) (by decide +kernel), List.mem_of_getElem? (i := 485) (by decide +kernel), List.mem_of_getElem? (i := 486) (by decide +kernel)⟩
theorem lw_p7 : lw_okq (⟨"ArchipelagoFerries", "lastSailing", "(I)I"⟩, 16) := ⟨⟨by decide +kernel, by decide +kernel⟩, List.mem_of_getElem? (i := 18) (by decide +kernel), List.mem_of_getElem? (i := 510) (by decide +kernel), List.mem_of_getElem? (i := 511) (by decide +kernel)⟩
theorem lw_p8 : lw_okq (⟨"ArchipelagoFerries", "addSailing", "(IIIII)I"⟩, 16) := ⟨⟨by decide +kernel, by decide +kernel⟩, List.mem_of_getElem? (i := 18) (by decide +kernel), List.mem_of_getElem? (i := 514) (by decide +kernel), List.mem_of_getElem? (i := 515) (by decide +kernel)⟩
theorem lw_p9 : lw_okq (⟨"ArchipelagoFerries$Ship", "hoursFor", "(I)I"⟩, 8) := ⟨⟨by decide +kernel, by decide +kernel⟩, List.mem_of_getElem? (i := 84) (by decide +kernel), List.mem_of_getElem? (i := 518) (by decide +kernel), List.mem_of_getElem? (i := 519) (by decide +kernel)⟩
theorem lw_p10 : lw_okq (⟨"ArchipelagoFerries", "callOff", "(II)I"⟩, 16) := ⟨⟨by decide +kernel, by decide +kernel⟩, List.mem_of_getElem? (i := 18) (by decide +kernel), List.mem_of_getElem? (i := 529) (by decide +kernel), List.mem_of_getElem? (i := 530) (by decide +kernel)⟩
theorem lw_p11 : lw_okq (⟨"ArchipelagoFerries", "sendOver", "(I)I"⟩, 16) := ⟨⟨by decide +kernel, by decide +kernel⟩, List.mem_of_getElem? (i := 18) (by decide +kernel), List.mem_of_getElem? (i := 533) (by decide +kernel), List.mem_of_getElem? (i := 534) (by decide +kernel)⟩
theorem lw_p12 : lw_okq (⟨"ArchipelagoFerries", "knownBooking", "(I)LArchipelagoFerries$Booking;"⟩, 16) := ⟨⟨by decide +kernel, by decide +kernel⟩, List.mem_of_getElem? (i := 18) (by decide +kernel), List.mem_of_getElem? (i := 537) (by decide +kernel), List.mem_of_getElem? (i := 538) (by decide +kernel)⟩
theorem lw_p13 : lw_okq (⟨"ArchipelagoFerries", "nextLike", "(I)I"⟩, 16) := ⟨⟨by decide +kernel, by decide +kernel⟩, List.mem_of_getElem? (i := 18) (by decide +kernel), List.mem_of_getElem? (i := 541) (by decide +kernel), List.mem_of_getElem? (i := 542) (by decide +kernel)⟩
theorem lw_p14 : lw_okq (⟨"ArchipelagoFerries", "goOver", "(LArchipelagoFerries$Booking;I)V"⟩, 16) := ⟨⟨by decide +kernel, by decide +kernel⟩, List.mem_of_getElem? (i := 18) (by decide +kernel), List.mem_of_getElem? (i := 545) (by decide +kernel), List.mem_of_getElem? (i := 546) (by decide +kernel)⟩
theorem lw_p15 : lw_okq (⟨"ArchipelagoFerries", "payBack", "(LArchipelagoFerries$Booking;)V"⟩, 16) := ⟨⟨by decide +kernel, by decide +kernel⟩, List.mem_of_getElem? (i := 18) (by decide +kernel), List.mem_of_getElem? (i := 549) (by decide +kernel), List.mem_of_getElem? (i := 550) (by decide +kernel)⟩
def lw_privs_1 : List (MethodName × Nat) := [(⟨"java/lang/Throwable", "fillInStackTrace", "(I)Ljava/lang/Throwable;"⟩, 6), (⟨"ArchipelagoFerries", "knownShip", "(I)LArchipelagoFerries$Ship;"⟩, 16), (⟨"ArchipelagoFerries", "knownCrew", "(I)LArchipelagoFerries$Crew;"⟩, 16), (⟨"ArchipelagoFerries$Span", "tell", "(II)V"⟩, 2), (⟨"ArchipelagoFerries", "hoursSailed", "(II)I"⟩, 16), (⟨"ArchipelagoFerries", "knownSailing", "(I)LArchipelagoFerries$Sailing;"⟩, 16), (⟨"ArchipelagoFerries", "spanFor", "(II)LArchipelagoFerries$Span;"⟩, 16), (⟨"ArchipelagoFerries", "lastSailing", "(I)I"⟩, 16), (⟨"ArchipelagoFerries", "addSailing", "(IIIII)I"⟩, 16), (⟨"ArchipelagoFerries$Ship", "hoursFor", "(I)I"⟩, 8), (⟨"ArchipelagoFerries", "callOff", "(II)I"⟩, 16), (⟨"ArchipelagoFerries", "sendOver", "(I)I"⟩, 16), (⟨"ArchipelagoFerries", "knownBooking", "(I)LArchipelagoFerries$Booking;"⟩, 16), (⟨"ArchipelagoFerries", "nextLike", "(I)I"⟩, 16), (⟨"ArchipelagoFerries", "goOver", "(LArchipelagoFerries$Booking;I)V"⟩, 16), (⟨"ArchipelagoFerries", "payBack", "(LArchipelagoFerries$Booking;)V"⟩, 16)]
theorem lw_r1 : ∀ q ∈ lw_privs_1, lw_okq q := List.forall_mem_cons.mpr ⟨lw_p0, List.forall_mem_cons.mpr ⟨lw_p1, List.forall_mem_cons.mpr ⟨lw_p2, List.forall_mem_cons.mpr ⟨lw_p3, List.forall_mem_cons.mpr ⟨lw_p4, List.forall_mem_cons.mpr ⟨lw_p5, List.forall_mem_cons.mpr ⟨lw_p6, List.forall_mem_cons.mpr ⟨lw_p7, List.forall_mem_cons.mpr ⟨lw_p8, List.forall_mem_cons.mpr ⟨lw_p9, List.forall_mem_cons.mpr ⟨lw_p10, List.forall_mem_cons.mpr ⟨lw_p11, List.forall_mem_cons.mpr ⟨lw_p12, List.forall_mem_cons.mpr ⟨lw_p13, List.forall_mem_cons.mpr ⟨lw_p14, List.forall_mem_cons.mpr ⟨lw_p15, fun _ h => absurd h List.not_mem_nil⟩⟩⟩⟩⟩⟩⟩⟩⟩⟩⟩⟩⟩⟩⟩⟩
theorem lw_p16 : lw_okq (⟨"ArchipelagoFerries", "isFree", "(I)Z"⟩, 16) := ⟨⟨by decide +kernel, by decide +kernel⟩, List.mem_of_getElem? (i := 18) (by decide +kernel), List.mem_of_getElem? (i := 560) (by decide +kernel), List.mem_of_getElem? (i := 561) (by decide +kernel)⟩
theorem lw_p17 : lw_okq (⟨"ArchipelagoFerries", "whereWas", "(II)I"⟩, 16) := ⟨⟨by decide +kernel, by decide +kernel⟩, List.mem_of_getElem? (i := 18) (by decide +kernel), List.mem_of_getElem? (i := 564) (by decide +kernel), List.mem_of_getElem? (i := 565) (by decide +kernel)⟩
theorem lw_p18 : lw_okq (⟨"ArchipelagoFerries$Span", "has", "(I)Z"⟩, 2) := ⟨⟨by decide +kernel, by decide +kernel⟩, List.mem_of_getElem? (i := 34) (by decide +kernel), List.mem_of_getElem? (i := 568) (by decide +kernel), List.mem_of_getElem? (i := 569) (by decide +kernel)⟩
theorem lw_p19 : lw_okq (⟨"ArchipelagoFerries", "lookAt", "(I)V"⟩, 16) := ⟨⟨by decide +kernel, by decide +kernel⟩, List.mem_of_getElem? (i := 18) (by decide +kernel), List.mem_of_getElem? (i := 579) (by decide +kernel), List.mem_of_getElem? (i := 580) (by decide +kernel)⟩
theorem lw_p20 : lw_okq (⟨"ArchipelagoFerries", "reasonAgainst", "(I)I"⟩, 16) := ⟨⟨by decide +kernel, by decide +kernel⟩, List.mem_of_getElem? (i := 18) (by decide +kernel), List.mem_of_getElem? (i := 583) (by decide +kernel), List.mem_of_getElem? (i := 584) (by decide +kernel)⟩
theorem lw_p21 : lw_okq (⟨"ArchipelagoFerries", "crewFor", "(LArchipelagoFerries$Sailing;)I"⟩, 16) := ⟨⟨by decide +kernel, by decide +kernel⟩, List.mem_of_getElem? (i := 18) (by decide +kernel), List.mem_of_getElem? (i := 587) (by decide +kernel), List.mem_of_getElem? (i := 588) (by decide +kernel)⟩
theorem lw_p22 : lw_okq (⟨"ArchipelagoFerries$Ship", "burns", "(I)I"⟩, 8) := ⟨⟨by decide +kernel, by decide +kernel⟩, List.mem_of_getElem? (i := 84) (by decide +kernel), List.mem_of_getElem? (i := 591) (by decide +kernel), List.mem_of_getElem? (i := 592) (by decide +kernel)⟩
theorem lw_p23 : lw_okq (⟨"ArchipelagoFerries", "setSail", "(I)V"⟩, 16) := ⟨⟨by decide +kernel, by decide +kernel⟩, List.mem_of_getElem? (i := 18) (by decide +kernel), List.mem_of_getElem? (i := 596) (by decide +kernel), List.mem_of_getElem? (i := 597) (by decide +kernel)⟩
theorem lw_p24 : lw_okq (⟨"ArchipelagoFerries$Deck", "clear", "(LArchipelagoFerries$Ship;)V"⟩, 9) := ⟨⟨by decide +kernel, by decide +kernel⟩, List.mem_of_getElem? (i := 49) (by decide +kernel), List.mem_of_getElem? (i := 600) (by decide +kernel), List.mem_of_getElem? (i := 601) (by decide +kernel)⟩
theorem lw_p25 : lw_okq (⟨"ArchipelagoFerries", "takeThose", "(IZ)V"⟩, 16) := ⟨⟨by decide +kernel, by decide +kernel⟩, List.mem_of_getElem? (i := 18) (by decide +kernel), List.mem_of_getElem? (i := 604) (by decide +kernel), List.mem_of_getElem? (i := 605) (by decide +kernel)⟩
theorem lw_p26 : lw_okq (⟨"ArchipelagoFerries$Deck", "take", "(LArchipelagoFerries$Booking;)V"⟩, 9) := ⟨⟨by decide +kernel, by decide +kernel⟩, List.mem_of_getElem? (i := 49) (by decide +kernel), List.mem_of_getElem? (i := 608) (by decide +kernel), List.mem_of_getElem? (i := 609) (by decide +kernel)⟩
theorem lw_p27 : lw_okq (⟨"ArchipelagoFerries$Deck", "bestLane", "(LArchipelagoFerries$Booking;)I"⟩, 9) := ⟨⟨by decide +kernel, by decide +kernel⟩, List.mem_of_getElem? (i := 49) (by decide +kernel), List.mem_of_getElem? (i := 612) (by decide +kernel), List.mem_of_getElem? (i := 613) (by decide +kernel)⟩
theorem lw_p28 : lw_okq (⟨"ArchipelagoFerries$Deck", "leanOf", "(II)I"⟩, 9) := ⟨⟨by decide +kernel, by decide +kernel⟩, List.mem_of_getElem? (i := 49) (by decide +kernel), List.mem_of_getElem? (i := 616) (by decide +kernel), List.mem_of_getElem? (i := 617) (by decide +kernel)⟩
theorem lw_p29 : lw_okq (⟨"ArchipelagoFerries$Deck", "isNearDangerous", "(I)Z"⟩, 9) := ⟨⟨by decide +kernel, by decide +kernel⟩, List.mem_of_getElem? (i := 49) (by decide +kernel), List.mem_of_getElem? (i := 621) (by decide +kernel), List.mem_of_getElem? (i := 622) (by decide +kernel)⟩
theorem lw_p30 : lw_okq (⟨"ArchipelagoFerries$Deck", "put", "(LArchipelagoFerries$Booking;I)V"⟩, 9) := ⟨⟨by decide +kernel, by decide +kernel⟩, List.mem_of_getElem? (i := 49) (by decide +kernel), List.mem_of_getElem? (i := 628) (by decide +kernel), List.mem_of_getElem? (i := 629) (by decide +kernel)⟩
theorem lw_p31 : lw_okq (⟨"ArchipelagoFerries", "evenOut", "(I)V"⟩, 16) := ⟨⟨by decide +kernel, by decide +kernel⟩, List.mem_of_getElem? (i := 18) (by decide +kernel), List.mem_of_getElem? (i := 632) (by decide +kernel), List.mem_of_getElem? (i := 633) (by decide +kernel)⟩
def lw_privs_2 : List (MethodName × Nat) := [(⟨"ArchipelagoFerries", "isFree", "(I)Z"⟩, 16), (⟨"ArchipelagoFerries", "whereWas", "(II)I"⟩, 16), (⟨"ArchipelagoFerries$Span", "has", "(I)Z"⟩, 2), (⟨"ArchipelagoFerries", "lookAt", "(I)V"⟩, 16), (⟨"ArchipelagoFerries", "reasonAgainst", "(I)I"⟩, 16), (⟨"ArchipelagoFerries", "crewFor", "(LArchipelagoFerries$Sailing;)I"⟩, 16), (⟨"ArchipelagoFerries$Ship", "burns", "(I)I"⟩, 8), (⟨"ArchipelagoFerries", "setSail", "(I)V"⟩, 16), (⟨"ArchipelagoFerries$Deck", "clear", "(LArchipelagoFerries$Ship;)V"⟩, 9), (⟨"ArchipelagoFerries", "takeThose", "(IZ)V"⟩, 16), (⟨"ArchipelagoFerries$Deck", "take", "(LArchipelagoFerries$Booking;)V"⟩, 9), (⟨"ArchipelagoFerries$Deck", "bestLane", "(LArchipelagoFerries$Booking;)I"⟩, 9), (⟨"ArchipelagoFerries$Deck", "leanOf", "(II)I"⟩, 9), (⟨"ArchipelagoFerries$Deck", "isNearDangerous", "(I)Z"⟩, 9), (⟨"ArchipelagoFerries$Deck", "put", "(LArchipelagoFerries$Booking;I)V"⟩, 9), (⟨"ArchipelagoFerries", "evenOut", "(I)V"⟩, 16)]
theorem lw_r2 : ∀ q ∈ lw_privs_2, lw_okq q := List.forall_mem_cons.mpr ⟨lw_p16, List.forall_mem_cons.mpr ⟨lw_p17, List.forall_mem_cons.mpr ⟨lw_p18, List.forall_mem_cons.mpr ⟨lw_p19, List.forall_mem_cons.mpr ⟨lw_p20, List.forall_mem_cons.mpr ⟨lw_p21, List.forall_mem_cons.mpr ⟨lw_p22, List.forall_mem_cons.mpr ⟨lw_p23, List.forall_mem_cons.mpr ⟨lw_p24, List.forall_mem_cons.mpr ⟨lw_p25, List.forall_mem_cons.mpr ⟨lw_p26, List.forall_mem_cons.mpr ⟨lw_p27, List.forall_mem_cons.mpr ⟨lw_p28, List.forall_mem_cons.mpr ⟨lw_p29, List.forall_mem_cons.mpr ⟨lw_p30, List.forall_mem_cons.mpr ⟨lw_p31, fun _ h => absurd h List.not_mem_nil⟩⟩⟩⟩⟩⟩⟩⟩⟩⟩⟩⟩⟩⟩⟩⟩
theorem lw_p32 : lw_okq (⟨"ArchipelagoFerries", "putOffLast", "(I)V"⟩, 16) := ⟨⟨by decide +kernel, by decide +kernel⟩, List.mem_of_getElem? (i := 18) (by decide +kernel), List.mem_of_getElem? (i := 636) (by decide +kernel), List.mem_of_getElem? (i := 637) (by decide +kernel)⟩
theorem lw_p33 : lw_okq (⟨"ArchipelagoFerries$Deck", "isOnHeavierSide", "(LArchipelagoFerries$Booking;)Z"⟩, 9) := ⟨⟨by decide +kernel, by decide +kernel⟩, List.mem_of_getElem? (i := 49) (by decide +kernel), List.mem_of_getElem? (i := 640) (by decide +kernel), List.mem_of_getElem? (i := 641) (by decide +kernel)⟩
theorem lw_p34 : lw_okq (⟨"ArchipelagoFerries$Deck", "putOff", "(LArchipelagoFerries$Booking;)V"⟩, 9) := ⟨⟨by decide +kernel, by decide +kernel⟩, List.mem_of_getElem? (i := 49) (by decide +kernel), List.mem_of_getElem? (i := 644) (by decide +kernel), List.mem_of_getElem? (i := 645) (by decide +kernel)⟩
theorem lw_p35 : lw_okq (⟨"ArchipelagoFerries", "payFor", "(LArchipelagoFerries$Booking;I)V"⟩, 16) := ⟨⟨by decide +kernel, by decide +kernel⟩, List.mem_of_getElem? (i := 18) (by decide +kernel), List.mem_of_getElem? (i := 706) (by decide +kernel), List.mem_of_getElem? (i := 707) (by decide +kernel)⟩
theorem lw_p36 : lw_okq (⟨"ArchipelagoFerriesModel", "isShip", "(I)Z"⟩, 53) := ⟨⟨by decide +kernel, by decide +kernel⟩, List.mem_of_getElem? (i := 775) (by decide +kernel), List.mem_of_getElem? (i := 959) (by decide +kernel), List.mem_of_getElem? (i := 960) (by decide +kernel)⟩
theorem lw_p37 : lw_okq (⟨"ArchipelagoFerriesModel", "lastOf", "(I)I"⟩, 53) := ⟨⟨by decide +kernel, by decide +kernel⟩, List.mem_of_getElem? (i := 775) (by decide +kernel), List.mem_of_getElem? (i := 995) (by decide +kernel), List.mem_of_getElem? (i := 996) (by decide +kernel)⟩
theorem lw_p38 : lw_okq (⟨"ArchipelagoFerriesModel", "placeIn", "(II)I"⟩, 53) := ⟨⟨by decide +kernel, by decide +kernel⟩, List.mem_of_getElem? (i := 775) (by decide +kernel), List.mem_of_getElem? (i := 999) (by decide +kernel), List.mem_of_getElem? (i := 1000) (by decide +kernel)⟩
theorem lw_p39 : lw_okq (⟨"ArchipelagoFerriesModel", "endOf", "(I)I"⟩, 53) := ⟨⟨by decide +kernel, by decide +kernel⟩, List.mem_of_getElem? (i := 775) (by decide +kernel), List.mem_of_getElem? (i := 1003) (by decide +kernel), List.mem_of_getElem? (i := 1004) (by decide +kernel)⟩
theorem lw_p40 : lw_okq (⟨"ArchipelagoFerriesModel", "hoursOf", "(I)I"⟩, 53) := ⟨⟨by decide +kernel, by decide +kernel⟩, List.mem_of_getElem? (i := 775) (by decide +kernel), List.mem_of_getElem? (i := 1007) (by decide +kernel), List.mem_of_getElem? (i := 1008) (by decide +kernel)⟩
theorem lw_p41 : lw_okq (⟨"ArchipelagoFerriesModel", "makes", "(IIIII)I"⟩, 53) := ⟨⟨by decide +kernel, by decide +kernel⟩, List.mem_of_getElem? (i := 775) (by decide +kernel), List.mem_of_getElem? (i := 1011) (by decide +kernel), List.mem_of_getElem? (i := 1012) (by decide +kernel)⟩
theorem lw_p42 : lw_okq (⟨"ArchipelagoFerriesModel", "hasSailing", "(I)Z"⟩, 53) := ⟨⟨by decide +kernel, by decide +kernel⟩, List.mem_of_getElem? (i := 775) (by decide +kernel), List.mem_of_getElem? (i := 1019) (by decide +kernel), List.mem_of_getElem? (i := 1020) (by decide +kernel)⟩
theorem lw_p43 : lw_okq (⟨"ArchipelagoFerriesModel", "empties", "(I)I"⟩, 53) := ⟨⟨by decide +kernel, by decide +kernel⟩, List.mem_of_getElem? (i := 775) (by decide +kernel), List.mem_of_getElem? (i := 1023) (by decide +kernel), List.mem_of_getElem? (i := 1024) (by decide +kernel)⟩
theorem lw_p44 : lw_okq (⟨"ArchipelagoFerriesModel", "goesOver", "(I)V"⟩, 53) := ⟨⟨by decide +kernel, by decide +kernel⟩, List.mem_of_getElem? (i := 775) (by decide +kernel), List.mem_of_getElem? (i := 1027) (by decide +kernel), List.mem_of_getElem? (i := 1028) (by decide +kernel)⟩
theorem lw_p45 : lw_okq (⟨"ArchipelagoFerriesModel", "hinders", "(II)Z"⟩, 53) := ⟨⟨by decide +kernel, by decide +kernel⟩, List.mem_of_getElem? (i := 775) (by decide +kernel), List.mem_of_getElem? (i := 1035) (by decide +kernel), List.mem_of_getElem? (i := 1036) (by decide +kernel)⟩
theorem lw_p46 : lw_okq (⟨"ArchipelagoFerriesModel", "reasonFor", "(I)I"⟩, 53) := ⟨⟨by decide +kernel, by decide +kernel⟩, List.mem_of_getElem? (i := 775) (by decide +kernel), List.mem_of_getElem? (i := 1043) (by decide +kernel), List.mem_of_getElem? (i := 1044) (by decide +kernel)⟩
theorem lw_p47 : lw_okq (⟨"ArchipelagoFerriesModel", "crewFor", "(I)I"⟩, 53) := ⟨⟨by decide +kernel, by decide +kernel⟩, List.mem_of_getElem? (i := 775) (by decide +kernel), List.mem_of_getElem? (i := 1047) (by decide +kernel), List.mem_of_getElem? (i := 1048) (by decide +kernel)⟩
def lw_privs_3 : List (MethodName × Nat) := [(⟨"ArchipelagoFerries", "putOffLast", "(I)V"⟩, 16), (⟨"ArchipelagoFerries$Deck", "isOnHeavierSide", "(LArchipelagoFerries$Booking;)Z"⟩, 9), (⟨"ArchipelagoFerries$Deck", "putOff", "(LArchipelagoFerries$Booking;)V"⟩, 9), (⟨"ArchipelagoFerries", "payFor", "(LArchipelagoFerries$Booking;I)V"⟩, 16), (⟨"ArchipelagoFerriesModel", "isShip", "(I)Z"⟩, 53), (⟨"ArchipelagoFerriesModel", "lastOf", "(I)I"⟩, 53), (⟨"ArchipelagoFerriesModel", "placeIn", "(II)I"⟩, 53), (⟨"ArchipelagoFerriesModel", "endOf", "(I)I"⟩, 53), (⟨"ArchipelagoFerriesModel", "hoursOf", "(I)I"⟩, 53), (⟨"ArchipelagoFerriesModel", "makes", "(IIIII)I"⟩, 53), (⟨"ArchipelagoFerriesModel", "hasSailing", "(I)Z"⟩, 53), (⟨"ArchipelagoFerriesModel", "empties", "(I)I"⟩, 53), (⟨"ArchipelagoFerriesModel", "goesOver", "(I)V"⟩, 53), (⟨"ArchipelagoFerriesModel", "hinders", "(II)Z"⟩, 53), (⟨"ArchipelagoFerriesModel", "reasonFor", "(I)I"⟩, 53), (⟨"ArchipelagoFerriesModel", "crewFor", "(I)I"⟩, 53)]
theorem lw_r3 : ∀ q ∈ lw_privs_3, lw_okq q := List.forall_mem_cons.mpr ⟨lw_p32, List.forall_mem_cons.mpr ⟨lw_p33, List.forall_mem_cons.mpr ⟨lw_p34, List.forall_mem_cons.mpr ⟨lw_p35, List.forall_mem_cons.mpr ⟨lw_p36, List.forall_mem_cons.mpr ⟨lw_p37, List.forall_mem_cons.mpr ⟨lw_p38, List.forall_mem_cons.mpr ⟨lw_p39, List.forall_mem_cons.mpr ⟨lw_p40, List.forall_mem_cons.mpr ⟨lw_p41, List.forall_mem_cons.mpr ⟨lw_p42, List.forall_mem_cons.mpr ⟨lw_p43, List.forall_mem_cons.mpr ⟨lw_p44, List.forall_mem_cons.mpr ⟨lw_p45, List.forall_mem_cons.mpr ⟨lw_p46, List.forall_mem_cons.mpr ⟨lw_p47, fun _ h => absurd h List.not_mem_nil⟩⟩⟩⟩⟩⟩⟩⟩⟩⟩⟩⟩⟩⟩⟩⟩
theorem lw_p48 : lw_okq (⟨"ArchipelagoFerriesModel", "burns", "(I)I"⟩, 53) := ⟨⟨by decide +kernel, by decide +kernel⟩, List.mem_of_getElem? (i := 775) (by decide +kernel), List.mem_of_getElem? (i := 1051) (by decide +kernel), List.mem_of_getElem? (i := 1052) (by decide +kernel)⟩
theorem lw_p49 : lw_okq (⟨"ArchipelagoFerriesModel", "sails", "(I)V"⟩, 53) := ⟨⟨by decide +kernel, by decide +kernel⟩, List.mem_of_getElem? (i := 775) (by decide +kernel), List.mem_of_getElem? (i := 1055) (by decide +kernel), List.mem_of_getElem? (i := 1056) (by decide +kernel)⟩
theorem lw_p50 : lw_okq (⟨"ArchipelagoFerriesModel", "takes", "(II)V"⟩, 53) := ⟨⟨by decide +kernel, by decide +kernel⟩, List.mem_of_getElem? (i := 775) (by decide +kernel), List.mem_of_getElem? (i := 1059) (by decide +kernel), List.mem_of_getElem? (i := 1060) (by decide +kernel)⟩
theorem lw_p51 : lw_okq (⟨"ArchipelagoFerriesModel", "difference", "(III)I"⟩, 53) := ⟨⟨by decide +kernel, by decide +kernel⟩, List.mem_of_getElem? (i := 775) (by decide +kernel), List.mem_of_getElem? (i := 1063) (by decide +kernel), List.mem_of_getElem? (i := 1064) (by decide +kernel)⟩
theorem lw_p52 : lw_okq (⟨"ArchipelagoFerriesModel", "sideOf", "(II)I"⟩, 53) := ⟨⟨by decide +kernel, by decide +kernel⟩, List.mem_of_getElem? (i := 775) (by decide +kernel), List.mem_of_getElem? (i := 1067) (by decide +kernel), List.mem_of_getElem? (i := 1068) (by decide +kernel)⟩
theorem lw_p53 : lw_okq (⟨"ArchipelagoFerriesModel", "fits", "(III)Z"⟩, 53) := ⟨⟨by decide +kernel, by decide +kernel⟩, List.mem_of_getElem? (i := 775) (by decide +kernel), List.mem_of_getElem? (i := 1071) (by decide +kernel), List.mem_of_getElem? (i := 1072) (by decide +kernel)⟩
theorem lw_p54 : lw_okq (⟨"ArchipelagoFerriesModel", "puts", "(IIII)V"⟩, 53) := ⟨⟨by decide +kernel, by decide +kernel⟩, List.mem_of_getElem? (i := 775) (by decide +kernel), List.mem_of_getElem? (i := 1075) (by decide +kernel), List.mem_of_getElem? (i := 1076) (by decide +kernel)⟩
theorem lw_p55 : lw_okq (⟨"ArchipelagoFerriesModel", "putsOff", "(I)V"⟩, 53) := ⟨⟨by decide +kernel, by decide +kernel⟩, List.mem_of_getElem? (i := 775) (by decide +kernel), List.mem_of_getElem? (i := 1079) (by decide +kernel), List.mem_of_getElem? (i := 1080) (by decide +kernel)⟩
theorem lw_p56 : lw_okq (⟨"ArchipelagoFerriesModel", "hasBooking", "(I)Z"⟩, 53) := ⟨⟨by decide +kernel, by decide +kernel⟩, List.mem_of_getElem? (i := 775) (by decide +kernel), List.mem_of_getElem? (i := 1119) (by decide +kernel), List.mem_of_getElem? (i := 1120) (by decide +kernel)⟩
def lw_privs_4 : List (MethodName × Nat) := [(⟨"ArchipelagoFerriesModel", "burns", "(I)I"⟩, 53), (⟨"ArchipelagoFerriesModel", "sails", "(I)V"⟩, 53), (⟨"ArchipelagoFerriesModel", "takes", "(II)V"⟩, 53), (⟨"ArchipelagoFerriesModel", "difference", "(III)I"⟩, 53), (⟨"ArchipelagoFerriesModel", "sideOf", "(II)I"⟩, 53), (⟨"ArchipelagoFerriesModel", "fits", "(III)Z"⟩, 53), (⟨"ArchipelagoFerriesModel", "puts", "(IIII)V"⟩, 53), (⟨"ArchipelagoFerriesModel", "putsOff", "(I)V"⟩, 53), (⟨"ArchipelagoFerriesModel", "hasBooking", "(I)Z"⟩, 53)]
theorem lw_r4 : ∀ q ∈ lw_privs_4, lw_okq q := List.forall_mem_cons.mpr ⟨lw_p48, List.forall_mem_cons.mpr ⟨lw_p49, List.forall_mem_cons.mpr ⟨lw_p50, List.forall_mem_cons.mpr ⟨lw_p51, List.forall_mem_cons.mpr ⟨lw_p52, List.forall_mem_cons.mpr ⟨lw_p53, List.forall_mem_cons.mpr ⟨lw_p54, List.forall_mem_cons.mpr ⟨lw_p55, List.forall_mem_cons.mpr ⟨lw_p56, fun _ h => absurd h List.not_mem_nil⟩⟩⟩⟩⟩⟩⟩⟩⟩
def lw_privs : List (MethodName × Nat) := lw_privs_1 ++ (lw_privs_2 ++ (lw_privs_3 ++ (lw_privs_4)))
def lw_tbl : List Cond := k2_sels lw_privs ++ tables_1
theorem lw_privs_ok : ∀ q ∈ lw_privs, lw_okq q := by
  show ∀ q ∈ lw_privs_1 ++ (lw_privs_2 ++ (lw_privs_3 ++ (lw_privs_4))), lw_okq q
  exact List.forall_mem_append.mpr ⟨lw_r1, List.forall_mem_append.mpr ⟨lw_r2, List.forall_mem_append.mpr ⟨lw_r3, lw_r4⟩⟩⟩
/-- the streams that the claim lets the run draw from -/
abbrev lw_cs : List Choice := [Jvm.Choice.named "NaN.bits"]
theorem lw_bits : nanBits ∈ lw_cs := by first | decide | exact List.mem_cons_self | simp [lw_cs, nanBits]
-- ===== end of PART A; then your names; then what follows =====
end
section
/-! ===== BEGIN words of one list among another's, by their places ===== -/
theorem goodIn_r {big : List Cond} (ws : List Cond) (ps : List Nat) (hp : ws = ps.filterMap (fun i => big[i]?)) (h : ws.all goodWord = true) : GoodIn big ws := by
  intro w hw
  have h1 := List.all_eq_true.mp h w hw
  rw [hp] at hw
  obtain ⟨i, -, hi⟩ := List.mem_filterMap.mp hw
  have hm : w ∈ big := by first | exact List.mem_of_getElem? hi | exact List.getElem?_mem hi
  exact ⟨hm, good_of_word h1⟩
theorem goodIn_app {big a b : List Cond} (ha : GoodIn big a) (hb : GoodIn big b) : GoodIn big (a ++ b) := fun w h => (List.mem_append.mp h).elim (ha w) (hb w)
theorem goodIn_ca {big a b : List Cond} {c : Cond} (ha : GoodIn big (c :: a)) (hb : GoodIn big b) : GoodIn big (c :: (a ++ b)) := fun w h => (List.mem_cons.mp h).elim (fun e => ha w (List.mem_cons.mpr (Or.inl e))) (fun h => (List.mem_append.mp h).elim (fun h => ha w (List.mem_cons.mpr (Or.inr h))) (hb w))
theorem goodIn_sub {big ws : List Cond} (hm : ∀ w ∈ ws, w ∈ big) (h : ws.all goodWord = true) : GoodIn big ws := fun w hw => ⟨hm w hw, good_of_word (List.all_eq_true.mp h w hw)⟩
/-! ===== END ===== -/

/-! ===== BEGIN exceptions that leave a method, and their catching by the caller (launches without stack traces) ===== -/
section VXA
/-! The laws vx_back, vx_callV, vx_callS, vx_callSW, vx_throw0, vx_throwS follow proofs of the library, with one case more: JvmDerived/Free/Laws.lean (Back.of_free), Shelf42/LK1.lean (callV, callS), Shelf/KitTraced.lean (throwNew0V, throwNewS). -/
/-- where a method has thrown q: the class by its name, the cell, what was written, the world -/
def vx_T (XC : String → State → State → Prop) (st : State) (q : Addr) (t : State) (mc ms : Nat) (free : Addr → Prop) : Prop :=
  ∃ (E : String) (ce : Cell) (L : List Loc), XC E st t ∧ t.heap[q]? = some ce ∧ ce.vm = .none ∧ st.vm.findClass E = some ce.cls ∧ st.WarmedH t.vm ∧ st.sameButNew ({ t with vm := st.vm } : State) L mc ms ∧ ∀ z ∈ L, free z.base
def vx_Q (Qc : Array Value → State → Outcome → State → Prop) (XC : String → State → State → Prop) (mc ms : Nat) (free : Addr → Prop) : Array Value → State → Outcome → State → Prop := fun a st o t =>
  (Qc a st o t ∧ ∃ L, FrameEnd st o t L mc ms ∧ ∀ q ∈ L, free q.base) ∨ ∃ q, o = .threw q ∧ vx_T XC st q t mc ms free
/-- a callee that returns or throws -/
def vx_Met (l : Launch) (y : MethodName) (ws : List Cond) (rm : Room) (Pc : Array Value → State → Prop) (Qc : Array Value → State → Outcome → State → Prop) (XC : String → State → State → Prop) (mc ms : Nat) (free : Addr → Prop) : Prop :=
  MetFree l y (headSpec ws rm) Pc (fun _ _ _ _ _ => True) (vx_Q Qc XC mc ms free)
def vx_Post (XC : String → State → State → Prop) (mc ms : Nat) (free : Addr → Prop) : Pt → Array Value → Addr → Pt → Prop := fun A a q B =>
  ∃ (g : JFrame) (mk : MethodId) (t : State) (L : List Loc) (E : String) (ce : Cell), B.U.heap = t.heap ∧ B.U.vm = t.vm ∧ XC E (A.U.calling g mk a) t ∧ t.heap[q]? = some ce ∧ ce.vm = .none ∧ A.U.vm.findClass E = some ce.cls ∧ B.locs = A.locs ++ L ∧ (∀ z ∈ L, free z.base) ∧ B.cells = A.cells + mc ∧ B.slots = A.slots + ms
def vx_Back (l : Launch) (R : Room) (p : Program) (e : Env) (below : List Frame) (s : State) (sargs : Array Value) (y : MethodName) (len W9 : Nat)
    (Pre : Pt → Array Value → Prop) (Post : Pt → Array Value → Option Value → Pt → Prop) (PostX : Pt → Array Value → Addr → Pt → Prop) : Prop :=
  ∀ (m : MethodId) (meth : Method) (c : Code) (A : Pt) (g : JFrame) (ig : Instr) (mk : MethodId) (a : Array Value),
    Stand p l e R s m sargs below meth c A.U A.locs A.cells A.slots → g.method = m → g.locals.size = c.maxLocals → decode c.code g.pc = .ok (ig, len) →
    2 * g.monitorRoom + (g.stack.map fun v => v.category).sum ≤ W9 → A.U.methodNamed? y = some mk → Pre A a →
    (∃ (v : Option Value) (B : Pt), Stand p l e R s m sargs below meth c B.U B.locs B.cells B.slots ∧ Post A a v B ∧
      Steps p.tables e below (doInvoke e (A.U.setTop g) [] mk a).1 (B.U.setTop { g with pc := g.pc + len, stack := v.toList ++ g.stack })) ∨
    (∃ (q : Addr) (B : Pt), Stand p l e R s m sargs below meth c B.U B.locs B.cells B.slots ∧ PostX A a q B ∧
      Steps p.tables e below (doInvoke e (A.U.setTop g) [] mk a).1 ((B.U.setTop g).pushFrame (.throwing q)))
section Payer
variable {l : Launch} {R : Room} {p : Program} {e : Env} {below : List Frame} {s : State} {sargs : Array Value} {y : MethodName} {len W9 : Nat}
theorem vx_back {ws : List Cond} {rm : Room} {Pc : Array Value → State → Prop} {Qc : Array Value → State → Outcome → State → Prop} {XC : String → State → State → Prop} {mc ms : Nat} {free : Addr → Prop} {bytes : ByteArray} {maxL : Nat} {ret : Option FieldType}
    (hM : vx_Met l y ws rm Pc Qc XC mc ms free) (hblind : FrameBlind Pc) (hrc : rm.cells = mc) (hrs : rm.slots = ms)
    (hframes : rm.frames + 1 ≤ R.frames) (hlocals : W9 + (maxL + 11) + rm.locals ≤ R.locals)
    (hws : ∀ w ∈ ws, ∀ a' U, s.WarmedH U.vm → w.before a' U = true) (hcode : Cond.code y bytes maxL ret ∈ ws) (hinit : ∀ a' U, s.WarmedH U.vm → (Cond.initialized y.cls).before a' U = true) :
    vx_Back l R p e below s sargs y len W9 (PreOf R mc ms Pc) (PostOf Qc mc ms free) (vx_Post XC mc ms free) := by
  intro m meth c A g ig mk a X hg hsize hdg hW hn hp
  have h1 : (headSpec ws rm).pre.before a A.U = true := atoms_intro fun w hw => hws w hw _ _ X.warmed
  have h2 : (Cond.code y bytes maxL ret).before a A.U = true := hws _ hcode _ _ X.warmed
  have h3 : (Cond.initialized y.cls).before a A.U = true := hinit _ _ X.warmed
  have h4 : A.cells + (headSpec ws rm).room.cells ≤ R.cells := by rw [show (headSpec ws rm).room.cells = mc from hrc]; exact hp.1
  have h5 : A.slots + (headSpec ws rm).room.slots ≤ R.slots := by rw [show (headSpec ws rm).room.slots = ms from hrs]; exact hp.2.1
  have hPc : Pc a (A.U.calling g mk a) := hblind _ _ _ _ hp.2.2
  obtain ⟨U, Ls, c0, s0⟩ := A
  dsimp only [Pt.U, Pt.locs, Pt.cells, Pt.slots] at h1 h2 h3 h4 h5 X hn hPc ⊢
  obtain ⟨methY, cY, hmY, hcY, -, hlY, -, -, -, -⟩ := Cond.code_spec hn h2
  obtain ⟨kY, hkY, -⟩ := className_of_methodNamed hn
  have hinitY : kY.init = .initialized := Cond.initialized_spec (findClass_of_methodNamed hn) hkY h3
  have h : At U g.method c below := by rw [hg]; exact X.here
  have hlocals9 : W9 + (maxL + 11) + (headSpec ws rm).room.locals ≤ R.locals := hlocals
  have happ : (headSpec ws rm).appliesLoose y e.platform (U.calling g mk a) = true :=
    Spec.appliesLoose_calling (g := g) h hdg hn hkY hinitY
      (X.room_calling (g := g) (R' := (headSpec ws rm).room) hsize hmY hcY hframes (by rw [hlY]; omega) h4 h5) h1
  obtain ⟨mid, hmid⟩ := h.above
  have hfr : (U.setTop g).frames = (.java g :: mid) ++ below := by rw [State.frames_setTop' g h.top, hmid]; rfl
  obtain ⟨o, s₂, hsteps, -, hend, hq⟩ := Steps.callFree hM p X.admits X.cas X.clock (acts := []) hfr happ hPc trivial
  have hq' : vx_Q Qc XC mc ms free a (U.calling g mk a) o s₂ := hq
  rw [State.frames_setTop' g h.top] at hend
  obtain ⟨g₀, hg0⟩ := Option.isSome_iff_exists.mp h.top
  obtain ⟨r, hr⟩ := State.topJava?_eq_some.mp hg0
  have hr' : (({ U with heap := s₂.heap, slotsUsed := s₂.slotsUsed } : State).setVm s₂.vm).frames = .java g₀ :: r := hr
  rcases hq' with ⟨hqc, L, hfe, hL⟩ | ⟨q, rfl, E, ce, L, hx, hce, hcv, hcl, hW₂, hsm, hL⟩
  · obtain ⟨⟨v, rfl⟩, hW₂, e2, q2, q3, q4, q5, q6⟩ := id hfe
    have e3 : s₂ = ({ (U.calling g mk a).setFrames s₂.frames with heap := s₂.heap, slotsUsed := s₂.slotsUsed } : State).setVm s₂.vm := by
      have : s₂ = ({ s₂ with vm := (U.calling g mk a).vm } : State).setVm s₂.vm := rfl
      rw [e2] at this
      exact this
    obtain ⟨c₂, i₂, len₂, hc₂, hd₂, hf₂⟩ := hend
    have hW' : U.WarmedH s₂.vm := hW₂
    have hcc : c₂ = c := by
      have h1 : s₂.code? g.method = U.code? g.method := by
        rw [State.code?_eq, State.code?_eq, hW'.alike.method?]
      exact Option.some.inj (hc₂.symm.trans (h1.trans h.code))
    subst hcc
    have hlen : len₂ = len := by rw [hdg] at hd₂; cases hd₂; rfl
    subst hlen
    have hs₂ : s₂ = (({ U with heap := s₂.heap, slotsUsed := s₂.slotsUsed } : State).setVm s₂.vm).setTop { g with pc := g.pc + len₂, stack := v.toList ++ g.stack } := by
      refine e3.trans ?_
      rw [hf₂, State.calling_eq h.top, State.setFrames_setFrames, State.setTop_of_frames _ hr', hr]
      rfl
    have hsame : U.sameButNew ({ U with heap := s₂.heap, slotsUsed := s₂.slotsUsed } : State) L mc ms := by
      refine ⟨?_, q2, q3, q4, q5, q6⟩
      obtain ⟨t, ht, -⟩ := State.frames_cons hr
      show ({ U with heap := s₂.heap, slotsUsed := s₂.slotsUsed } : State) = { U.setFrames U.frames with heap := s₂.heap, slotsUsed := s₂.slotsUsed }
      rw [State.setFrames_self ht]
    subst hg
    refine Or.inl ⟨v, ⟨(({ U with heap := s₂.heap, slotsUsed := s₂.slotsUsed } : State).setVm s₂.vm), Ls ++ L, c0 + mc, s0 + ms⟩,
      ⟨X.admits, X.cas, X.clock, X.frames, X.room, X.hears, X.method, X.code, (X.here.setHeapUsed s₂.heap s₂.slotsUsed).setVm hW'.alike, X.tail, State.WarmedH.trans X.warmed hW', X.limits, X.bytes, X.same.trans (hsame.setVm s.vm)⟩,
      ⟨g, mk, s₂, L, rfl, rfl, hqc, rfl, hL, rfl, rfl⟩, ?_⟩
    show Steps p.tables e below _ ((({ U with heap := s₂.heap, slotsUsed := s₂.slotsUsed } : State).setVm s₂.vm).setTop { g with pc := g.pc + len₂, stack := v.toList ++ g.stack })
    rw [← hs₂]
    exact hsteps
  · obtain ⟨e2, q2, q3, q4, q5, q6⟩ := id hsm
    have e3 : s₂ = ({ (U.calling g mk a).setFrames s₂.frames with heap := s₂.heap, slotsUsed := s₂.slotsUsed } : State).setVm s₂.vm := by
      have : s₂ = ({ s₂ with vm := (U.calling g mk a).vm } : State).setVm s₂.vm := rfl
      rw [e2] at this
      exact this
    have hf₂ : s₂.frames = .throwing q :: .java g :: U.frames.tail := hend
    have hW' : U.WarmedH s₂.vm := hW₂
    have hs₂ : s₂ = ((({ U with heap := s₂.heap, slotsUsed := s₂.slotsUsed } : State).setVm s₂.vm).setTop g).pushFrame (.throwing q) := by
      refine e3.trans ?_
      rw [hf₂, State.calling_eq h.top, State.setFrames_setFrames, State.pushFrame, State.frames_setTop _ hr', State.setTop_of_frames _ hr', State.setFrames_setFrames, hr]
      rfl
    have hsame : U.sameButNew ({ U with heap := s₂.heap, slotsUsed := s₂.slotsUsed } : State) L mc ms := by
      refine ⟨?_, q2, q3, q4, q5, q6⟩
      obtain ⟨t, ht, -⟩ := State.frames_cons hr
      show ({ U with heap := s₂.heap, slotsUsed := s₂.slotsUsed } : State) = { U.setFrames U.frames with heap := s₂.heap, slotsUsed := s₂.slotsUsed }
      rw [State.setFrames_self ht]
    subst hg
    refine Or.inr ⟨q, ⟨(({ U with heap := s₂.heap, slotsUsed := s₂.slotsUsed } : State).setVm s₂.vm), Ls ++ L, c0 + mc, s0 + ms⟩,
      ⟨X.admits, X.cas, X.clock, X.frames, X.room, X.hears, X.method, X.code, (X.here.setHeapUsed s₂.heap s₂.slotsUsed).setVm hW'.alike, X.tail, State.WarmedH.trans X.warmed hW', X.limits, X.bytes, X.same.trans (hsame.setVm s.vm)⟩,
      ⟨g, mk, s₂, L, E, ce, rfl, rfl, hx, hce, hcv, hcl, rfl, hL, rfl, rfl⟩, ?_⟩
    show Steps p.tables e below _ (((({ U with heap := s₂.heap, slotsUsed := s₂.slotsUsed } : State).setVm s₂.vm).setTop g).pushFrame (.throwing q))
    rw [← hs₂]
    exact hsteps
end Payer
section Calls
variable {p : Program} {l : Launch} {e : Env} {R : Room} {s : State} {m : MethodId} {args : Array Value} {below : List Frame} {meth : Method} {c : Code} {T : State} {locs : List Loc} {cells slots : Nat}
theorem vx_callV (X : Stand p l e R s m args below meth c T locs cells slots) (hexec : p.tables.exec = Jvm.exec) {own C : String} {index : Nat} {y : MethodName} {bytes : ByteArray} {maxL : Nat} {ret : Option FieldType}
    (hown : s.vm.findClass own = some m.cls) (hlink : (Cond.methodLink own index y).before args s = true) (hinst : (Cond.instanceMethod y).before args s = true) (hsel : (Cond.selects C y y).before args s = true)
    (hcode : (Cond.code y bytes maxL ret).before args s = true) (hy : y.cls ≠ "java/lang/invoke/MethodHandle" ∧ y.cls ≠ "java/lang/invoke/VarHandle")
    {W9 : Nat} {Pre : Pt → Array Value → Prop} {Post : Pt → Array Value → Option Value → Pt → Prop} {PostX : Pt → Array Value → Addr → Pt → Prop} (hK : vx_Back l R p e below s args y 3 W9 Pre Post PostX)
    {b : Addr} {cellB : Cell} (hcell : T.heap[b]? = some cellB) (hobj : cellB.vm.isStatics = false) (hcls : s.vm.findClass C = some cellB.cls)
    {g : JFrame} (hg : g.method = m) (hsize : g.locals.size = c.maxLocals) {argsL rest : List Value} (hlen : ∀ sig, parseMethodDescriptor y.desc = some sig → argsL.length = sig.parameters.length)
    (hstack : g.stack = argsL.reverse ++ .ref b :: rest) (hW : 2 * g.monitorRoom + (rest.map fun v => v.category).sum ≤ W9) (hdg : decode c.code g.pc = .ok (.invokevirtual index, 3))
    (hpre : ∀ vm₁, s.WarmedH vm₁ → Pre ⟨T.setVm vm₁, locs, cells, slots⟩ (Value.ref b :: argsL).toArray) :
    (∃ (v : Option Value) (vm₁ : Vm) (B : Pt), s.WarmedH vm₁ ∧ Stand p l e R s m args below meth c B.U B.locs B.cells B.slots ∧ Post ⟨T.setVm vm₁, locs, cells, slots⟩ (Value.ref b :: argsL).toArray v B ∧
      ∀ target, Steps p.tables e below (B.U.setTop { g with pc := g.pc + 3, stack := v.toList ++ rest }) target → Steps p.tables e below (T.setTop g) target) ∨
    (∃ (q : Addr) (vm₁ : Vm) (B : Pt), s.WarmedH vm₁ ∧ Stand p l e R s m args below meth c B.U B.locs B.cells B.slots ∧ PostX ⟨T.setVm vm₁, locs, cells, slots⟩ (Value.ref b :: argsL).toArray q B ∧
      Steps p.tables e below (T.setTop g) ((B.U.setTop { g with stack := rest }).pushFrame (.throwing q))) := by
  obtain ⟨mk, methM, hnamed, hmethM, hstM, habM⟩ := Cond.instanceMethod_spec hinst
  obtain ⟨methM', cM, hmethM', -, -, -, -, -, -, hsigM⟩ := Cond.code_spec hnamed hcode
  cases hmethM.symm.trans hmethM'
  obtain ⟨c2, r2, m2, q1, q2, q3, q4, kP, hkP, hkPi⟩ := Cond.selects_spec hsel
  cases hcls.symm.trans q1
  cases (State.methodFound?_of_named hnamed hy).symm.trans q2
  cases hnamed.symm.trans q3
  have hselP : selectMethod e.platform s.vm cellB.cls mk = .method mk := by rw [Launch.admits_selectMethod X.admits]; exact q4
  obtain ⟨vm₁, X₁, hstep₁⟩ := X.invokevirtual hexec hown hlink hnamed hmethM hstM hkP hkPi hy (a := b) (cell := cellB) hcell
    (fun z h => by rw [h] at hobj; cases hobj) hselP hmethM habM hkP hkPi (g := g) hg (argsL := argsL) (rest := rest) (hlen _ hsigM) hstack hdg
  rcases hK m meth c ⟨T.setVm vm₁, locs, cells, slots⟩ { g with stack := rest } (.invokevirtual index) mk (Value.ref b :: argsL).toArray X₁ hg hsize hdg hW (X₁.named hnamed) (hpre vm₁ X₁.warmed) with ⟨v, B, X', hpost, hsteps⟩ | ⟨q, B, X', hpost, hsteps⟩
  · exact Or.inl ⟨v, vm₁, B, X₁.warmed, X', hpost, fun target h => hstep₁ _ fun acts => by rw [doInvoke_state]; exact hsteps.trans h⟩
  · exact Or.inr ⟨q, vm₁, B, X₁.warmed, X', hpost, hstep₁ _ fun acts => by rw [doInvoke_state]; exact hsteps⟩
theorem vx_callS (X : Stand p l e R s m args below meth c T locs cells slots) (hexec : p.tables.exec = Jvm.exec) {own : String} {index : Nat} {y : MethodName} {bytes : ByteArray} {maxL : Nat} {ret : Option FieldType}
    (hown : s.vm.findClass own = some m.cls) (hlink : (Cond.methodLink own index y).before args s = true) (hstat : (Cond.static y).before args s = true) (hinit : (Cond.initialized y.cls).before args s = true)
    (hcode : (Cond.code y bytes maxL ret).before args s = true) (hy : y.cls ≠ "java/lang/invoke/MethodHandle" ∧ y.cls ≠ "java/lang/invoke/VarHandle")
    {W9 : Nat} {Pre : Pt → Array Value → Prop} {Post : Pt → Array Value → Option Value → Pt → Prop} {PostX : Pt → Array Value → Addr → Pt → Prop} (hK : vx_Back l R p e below s args y 3 W9 Pre Post PostX)
    {g : JFrame} (hg : g.method = m) (hsize : g.locals.size = c.maxLocals) {argsL rest : List Value} (hlen : ∀ sig, parseMethodDescriptor y.desc = some sig → argsL.length = sig.parameters.length)
    (hstack : g.stack = argsL.reverse ++ rest) (hW : 2 * g.monitorRoom + (rest.map fun v => v.category).sum ≤ W9) (hdg : decode c.code g.pc = .ok (.invokestatic index, 3))
    (hpre : ∀ vm₁, s.WarmedH vm₁ → Pre ⟨T.setVm vm₁, locs, cells, slots⟩ argsL.toArray) :
    (∃ (v : Option Value) (vm₁ : Vm) (B : Pt), s.WarmedH vm₁ ∧ Stand p l e R s m args below meth c B.U B.locs B.cells B.slots ∧ Post ⟨T.setVm vm₁, locs, cells, slots⟩ argsL.toArray v B ∧
      ∀ target, Steps p.tables e below (B.U.setTop { g with pc := g.pc + 3, stack := v.toList ++ rest }) target → Steps p.tables e below (T.setTop g) target) ∨
    (∃ (q : Addr) (vm₁ : Vm) (B : Pt), s.WarmedH vm₁ ∧ Stand p l e R s m args below meth c B.U B.locs B.cells B.slots ∧ PostX ⟨T.setVm vm₁, locs, cells, slots⟩ argsL.toArray q B ∧
      Steps p.tables e below (T.setTop g) ((B.U.setTop { g with stack := rest }).pushFrame (.throwing q))) := by
  obtain ⟨mk, hnamed⟩ := Cond.code_named hcode
  obtain ⟨methM, cM, hmethM, -, -, -, -, -, -, hsigM⟩ := Cond.code_spec hnamed hcode
  have hstatic : methM.isStatic = true := Cond.static_spec hnamed hmethM hstat
  obtain ⟨kP, hkP, -⟩ := className_of_methodNamed hnamed
  have hinitP : kP.init = .initialized := Cond.initialized_spec (findClass_of_methodNamed hnamed) hkP hinit
  obtain ⟨vm₁, X₁, hstep₁⟩ := X.invokestatic hexec hown hlink hnamed hmethM hstatic hkP hinitP hy (g := g) hg (argsL := argsL) (rest := rest) (hlen _ hsigM) hstack hdg
  rcases hK m meth c ⟨T.setVm vm₁, locs, cells, slots⟩ { g with stack := rest } (.invokestatic index) mk argsL.toArray X₁ hg hsize hdg hW (X₁.named hnamed) (hpre vm₁ X₁.warmed) with ⟨v, B, X', hpost, hsteps⟩ | ⟨q, B, X', hpost, hsteps⟩
  · exact Or.inl ⟨v, vm₁, B, X₁.warmed, X', hpost, fun target h => hstep₁ _ fun acts => by rw [doInvoke_state]; exact hsteps.trans h⟩
  · exact Or.inr ⟨q, vm₁, B, X₁.warmed, X', hpost, hstep₁ _ fun acts => by rw [doInvoke_state]; exact hsteps⟩
end Calls
theorem vx_cls {s : State} {T : State} {vm₁ : Vm} {E : String} {k : ClassId} (hW : s.WarmedH vm₁) (h : (T.setVm vm₁).vm.findClass E = some k) : s.vm.findClass E = some k := by
  have h1 : vm₁.findClass E = some k := h
  rw [hW.alike.findClass] at h1
  exact h1
/-- the method's frame g, with q thrown over it -/
def vx_W (p : Program) (l : Launch) (e : Env) (R : Room) (s : State) (m : MethodId) (args : Array Value) (below : List Frame) (meth : Method) (c : Code) (H : Heap) (locs : List Loc) (cells slots : Nat) (Q : State → Prop) (g : JFrame) (q : Addr) : Prop :=
  ∀ T : State, T.heap = H → Stand p l e R s m args below meth c T locs cells slots → ∃ t, Steps p.tables e below ((T.setTop g).pushFrame (.throwing q)) t ∧ Q t
def vx_Run (p : Program) (l : Launch) (e : Env) (R : Room) (s : State) (m : MethodId) (args : Array Value) (below : List Frame) (meth : Method) (c : Code) (H : Heap) (locs : List Loc) (cells slots mc ms : Nat) (g : JFrame) (rest : List Value) (Qa : State → Outcome → State → Prop) (XC : String → State → State → Prop) (free : Addr → Prop) : Prop :=
  ∀ T : State, T.heap = H → Stand p l e R s m args below meth c T locs cells slots →
    (∃ (v : Option Value) (st₀ t T' : State) (L : List Loc), st₀.heap = H ∧ Stand p l e R s m args below meth c T' (locs ++ L) (cells + mc) (slots + ms) ∧ (∀ q ∈ L, free q.base) ∧ T'.heap = t.heap ∧ T'.vm = t.vm ∧ Qa st₀ (.returned v) t ∧
      Goes p e below T g T' { g with pc := g.pc + 3, stack := v.toList ++ rest }) ∨
    (∃ (q : Addr) (st₀ t T' : State) (L : List Loc) (E : String) (ce : Cell), st₀.heap = H ∧ Stand p l e R s m args below meth c T' (locs ++ L) (cells + mc) (slots + ms) ∧ (∀ z ∈ L, free z.base) ∧ T'.heap = t.heap ∧ T'.vm = t.vm ∧ XC E st₀ t ∧ t.heap[q]? = some ce ∧ ce.vm = .none ∧ s.vm.findClass E = some ce.cls ∧
      Steps p.tables e below (T.setTop g) ((T'.setTop { g with stack := rest }).pushFrame (.throwing q)))
def vx_X {S : Type} (px : S → Prop) (B : String → S → State → Prop) (A : Nat → Prop) : String → State → State → Prop := fun E st t => ∃ u : S, px u ∧ B E u t ∧ va_F A st t
section Runs
variable {p : Program} {l : Launch} {e : Env} {R : Room} {s : State} {m : MethodId} {args : Array Value} {below : List Frame} {meth : Method} {c : Code} {H : Heap} {locs : List Loc} {cells slots : Nat}
variable {y : MethodName} {bytes cc : ByteArray} {maxL nL mc ms n index : Nat} {ret : Option FieldType} {ws : List Cond} {rm : Room} {Pc : Array Value → State → Prop} {Qc : Array Value → State → Outcome → State → Prop} {XC : String → State → State → Prop} {free : Addr → Prop} {Ts : List Cond} {own C : String} {b : Addr} {As rest : List Value} {g : JFrame}
theorem vx_callBack (cb : CallB R s args own index y bytes maxL ret ws rm mc ms n) (hM : vx_Met l y ws rm Pc Qc XC mc ms free) (hbl : FrameBlind Pc) : vx_Back l R p e below s args y 3 8 (PreOf R mc ms Pc) (PostOf Qc mc ms free) (vx_Post XC mc ms free) := by
  obtain ⟨hrc, hrs, hfr, hlo, hws, hcw, -, hini, -⟩ := cb
  exact vx_back (bytes := bytes) (maxL := maxL) (ret := ret) hM hbl hrc hrs hfr hlo hws hcw (fun a' U hW => word_at hW (Or.inl (by first | rfl | simp [Cond.onTables, Cond.keeps, Cond.steady])) hini)
theorem vx_runV (S : CallFix p m c cc nL s args Ts own) (hM : vx_Met l y ws rm Pc Qc XC mc ms free) (cw : CallW R s args own C index y bytes maxL ret ws rm mc ms n) (hp : PreV s H C b Pc As)
    (hg : g.method = m) (hn : As.length = n) (hsize : g.locals.size = nL) (hstack : g.stack = As.reverse ++ .ref b :: rest) (hW : 2 * g.monitorRoom + (rest.map fun v => v.category).sum ≤ 8) (hdg : decode cc g.pc = .ok (.invokevirtual index, 3)) (hf : cells + mc ≤ R.cells ∧ slots + ms ≤ R.slots) :
    vx_Run p l e R s m args below meth c H locs cells slots mc ms g rest (Qc (Value.ref b :: As).toArray) XC free := by
  have hK : vx_Back l R p e below s args y 3 8 (PreOf R mc ms Pc) (PostOf Qc mc ms free) (vx_Post XC mc ms free) := vx_callBack cw.1 hM hp.1
  obtain ⟨⟨-, -, -, -, -, -, hcode, -, hy, hlen, hl⟩, hin, hse⟩ := cw
  obtain ⟨hx, hb, hml, ho, -⟩ := S
  obtain ⟨-, ⟨cellB, hcB, hoB, hclB⟩, hPc⟩ := hp
  intro T hT X
  rcases vx_callV X hx (C := C) (bytes := bytes) (maxL := maxL) (ret := ret) ho hl hin hse hcode hy hK (by rw [hT]; exact hcB) hoB hclB hg (hsize.trans hml.symm) (argsL := As) (rest := rest) (fun sig h => hn.trans (hlen sig h)) hstack hW (by rw [hb]; exact hdg)
    (fun vm₁ hW₁ => ⟨hf.1, hf.2, hPc (T.setVm vm₁) hT hW₁⟩) with ⟨v, vm₁, ⟨U', l2, c2, s2⟩, hW₁, X', ⟨g', mk, t, L, e1, e2, hq, h1, hL, h2, h3⟩, st⟩ | ⟨q, vm₁, ⟨U', l2, c2, s2⟩, hW₁, X', ⟨g', mk, t, L, E, ce, e1, e2, hq, hce, hcv, hcl, h1, hL, h2, h3⟩, st⟩
  · dsimp only [Pt.U, Pt.locs, Pt.cells, Pt.slots] at X' e1 e2 h1 h2 h3 st
    subst h1; subst h2; subst h3
    exact Or.inl ⟨v, (T.setVm vm₁).calling g' mk (Value.ref b :: As).toArray, t, U', L, hT, X', hL, e1, e2, hq, st⟩
  · dsimp only [Pt.U, Pt.locs, Pt.cells, Pt.slots] at X' e1 e2 h1 h2 h3 st hcl
    subst h1; subst h2; subst h3
    exact Or.inr ⟨q, (T.setVm vm₁).calling g' mk (Value.ref b :: As).toArray, t, U', L, E, ce, hT, X', hL, e1, e2, hq, hce, hcv, vx_cls hW₁ hcl, st⟩
theorem vx_runS (S : CallFix p m c cc nL s args Ts own) (hM : vx_Met l y ws rm Pc Qc XC mc ms free) (cw : CallB R s args own index y bytes maxL ret ws rm mc ms n ∧ (Cond.static y).before args s = true) (hp : PreS s H Pc As)
    (hg : g.method = m) (hn : As.length = n) (hsize : g.locals.size = nL) (hstack : g.stack = As.reverse ++ rest) (hW : 2 * g.monitorRoom + (rest.map fun v => v.category).sum ≤ 8) (hdg : decode cc g.pc = .ok (.invokestatic index, 3)) (hf : cells + mc ≤ R.cells ∧ slots + ms ≤ R.slots) :
    vx_Run p l e R s m args below meth c H locs cells slots mc ms g rest (Qc As.toArray) XC free := by
  have hK : vx_Back l R p e below s args y 3 8 (PreOf R mc ms Pc) (PostOf Qc mc ms free) (vx_Post XC mc ms free) := vx_callBack cw.1 hM hp.1
  obtain ⟨⟨-, -, -, -, -, -, hcode, hini, hy, hlen, hl⟩, hstt⟩ := cw
  obtain ⟨hx, hb, hml, ho, -⟩ := S
  intro T hT X
  rcases vx_callS X hx (bytes := bytes) (maxL := maxL) (ret := ret) ho hl hstt hini hcode hy hK hg (hsize.trans hml.symm) (argsL := As) (rest := rest) (fun sig h => hn.trans (hlen sig h)) hstack hW (by rw [hb]; exact hdg)
    (fun vm₁ hW₁ => ⟨hf.1, hf.2, hp.2 (T.setVm vm₁) hT hW₁⟩) with ⟨v, vm₁, ⟨U', l2, c2, s2⟩, hW₁, X', ⟨g', mk, t, L, e1, e2, hq, h1, hL, h2, h3⟩, st⟩ | ⟨q, vm₁, ⟨U', l2, c2, s2⟩, hW₁, X', ⟨g', mk, t, L, E, ce, e1, e2, hq, hce, hcv, hcl, h1, hL, h2, h3⟩, st⟩
  · dsimp only [Pt.U, Pt.locs, Pt.cells, Pt.slots] at X' e1 e2 h1 h2 h3 st
    subst h1; subst h2; subst h3
    exact Or.inl ⟨v, (T.setVm vm₁).calling g' mk As.toArray, t, U', L, hT, X', hL, e1, e2, hq, st⟩
  · dsimp only [Pt.U, Pt.locs, Pt.cells, Pt.slots] at X' e1 e2 h1 h2 h3 st hcl
    subst h1; subst h2; subst h3
    exact Or.inr ⟨q, (T.setVm vm₁).calling g' mk As.toArray, t, U', L, E, ce, hT, X', hL, e1, e2, hq, hce, hcv, vx_cls hW₁ hcl, st⟩
end Runs
section Rows
variable {p : Program} {l : Launch} {e : Env} {R : Room} {s : State} {m : MethodId} {args : Array Value} {below : List Frame} {meth : Method} {c : Code} {H : Heap} {locs : List Loc} {cells slots : Nat} {Q : State → Prop}
variable {mc ms : Nat} {free : Addr → Prop} {A0 A1 : Nat → Prop} {H0 : Heap} {a : Array Value} {pc : Nat} {ls : Array Slot} {st0 rest : List Value}
theorem vx_keep {st₀ t T' : State} {L : List Loc} (h0 : st₀.heap = H) (e1 : T'.heap = t.heap) (hS : va_S A0 H0 H locs) (hA : ∀ q, q < H.size → A1 q → A0 q) (hf : ∀ q, free q → A0 q) (hL : ∀ q ∈ L, free q.base) (hF : va_F A1 st₀ t) :
    H.size ≤ T'.heap.size ∧ (∀ q : Nat, q < H.size → ¬ A1 q → T'.heap[q]? = H[q]?) ∧ va_S A0 H0 T'.heap (locs ++ L) := by
  obtain ⟨hz, hk⟩ := hF
  rw [h0] at hz hk
  exact ⟨by rw [e1]; exact hz, fun q h1 h2 => by rw [e1]; exact hk q h1 h2,
    ⟨Nat.le_trans hS.1 (by rw [e1]; exact hz), fun q h1 h2 => by rw [e1, hk q (Nat.lt_of_lt_of_le h1 hS.1) (fun z => h2 (hA q (Nat.lt_of_lt_of_le h1 hS.1) z))]; exact hS.2.1 q h1 h2, fun q hq => by
      rcases List.mem_append.mp hq with h | h
      · exact hS.2.2 q h
      · exact hf _ (hL q h)⟩⟩
theorem vx_calli {S SX : Type} {post : Int32 → S → Prop} {px : SX → Prop} {B : S → State → Prop} {BX : String → SX → State → Prop} {AX : Nat → Prop} (hr : vx_Run p l e R s m args below meth c H locs cells slots mc ms (F0 m pc ls st0) rest (va_Qi post B A1 a) (vx_X px BX AX) free) (hS : va_S A0 H0 H locs) (hA : ∀ q, q < H.size → A1 q → A0 q) (hf : ∀ q, free q → A0 q) (hAX : ∀ q, q < H.size → AX q → A0 q)
    (kx : ∀ (E : String) (ce : Cell) (q9 : Addr) (u : SX) (t : State) (H1 : Heap) (locs1 : List Loc), t.heap = H1 → s.vm.Alike t.vm → px u → BX E u t → H.size ≤ H1.size → (∀ q : Nat, q < H.size → ¬ AX q → H1[q]? = H[q]?) → va_S A0 H0 H1 locs1 → H1[q9]? = some ce → ce.vm = .none → s.vm.findClass E = some ce.cls → vx_W p l e R s m args below meth c H1 locs1 (cells + mc) (slots + ms) Q (F0 m pc ls rest) q9)
    (kk : ∀ (r : Int32) (u : S) (t : State) (H1 : Heap) (locs1 : List Loc), t.heap = H1 → s.vm.Alike t.vm → post r u → B u t → H.size ≤ H1.size → (∀ q : Nat, q < H.size → ¬ A1 q → H1[q]? = H[q]?) → va_S A0 H0 H1 locs1 → W p l e R s m args below meth c H1 locs1 (cells + mc) (slots + ms) Q (F0 m (pc + 3) ls (.int r :: rest))) : W p l e R s m args below meth c H locs cells slots Q (F0 m pc ls st0) := by
  intro T hT X
  rcases hr T hT X with ⟨v, st₀, t, T', L, h0, X', hL, e1, e2, ⟨⟨r, u, hv, hp, hb⟩, hF⟩, st⟩ | ⟨q, st₀, t, T', L, E, ce, h0, X', hL, e1, e2, ⟨u, hp, hb, hF⟩, hce, hcv, hcl, st⟩
  · cases hv
    obtain ⟨k1, k2, k3⟩ := vx_keep h0 e1 hS hA hf hL hF
    obtain ⟨t2, a1, b1⟩ := kk r u t T'.heap (locs ++ L) e1.symm (by rw [← e2]; exact X'.warmed.alike) hp hb k1 k2 k3 T' rfl X'
    exact ⟨t2, st t2 a1, b1⟩
  · obtain ⟨k1, k2, k3⟩ := vx_keep h0 e1 hS hAX hf hL hF
    obtain ⟨t2, a1, b1⟩ := kx E ce q u t T'.heap (locs ++ L) e1.symm (by rw [← e2]; exact X'.warmed.alike) hp hb k1 k2 k3 (by rw [e1]; exact hce) hcv hcl T' rfl X'
    exact ⟨t2, st.trans a1, b1⟩
theorem vx_calll {S SX : Type} {post : Int64 → S → Prop} {px : SX → Prop} {B : S → State → Prop} {BX : String → SX → State → Prop} {AX : Nat → Prop} (hr : vx_Run p l e R s m args below meth c H locs cells slots mc ms (F0 m pc ls st0) rest (va_Ql post B A1 a) (vx_X px BX AX) free) (hS : va_S A0 H0 H locs) (hA : ∀ q, q < H.size → A1 q → A0 q) (hf : ∀ q, free q → A0 q) (hAX : ∀ q, q < H.size → AX q → A0 q)
    (kx : ∀ (E : String) (ce : Cell) (q9 : Addr) (u : SX) (t : State) (H1 : Heap) (locs1 : List Loc), t.heap = H1 → s.vm.Alike t.vm → px u → BX E u t → H.size ≤ H1.size → (∀ q : Nat, q < H.size → ¬ AX q → H1[q]? = H[q]?) → va_S A0 H0 H1 locs1 → H1[q9]? = some ce → ce.vm = .none → s.vm.findClass E = some ce.cls → vx_W p l e R s m args below meth c H1 locs1 (cells + mc) (slots + ms) Q (F0 m pc ls rest) q9)
    (kk : ∀ (r : Int64) (u : S) (t : State) (H1 : Heap) (locs1 : List Loc), t.heap = H1 → s.vm.Alike t.vm → post r u → B u t → H.size ≤ H1.size → (∀ q : Nat, q < H.size → ¬ A1 q → H1[q]? = H[q]?) → va_S A0 H0 H1 locs1 → W p l e R s m args below meth c H1 locs1 (cells + mc) (slots + ms) Q (F0 m (pc + 3) ls (.long r :: rest))) : W p l e R s m args below meth c H locs cells slots Q (F0 m pc ls st0) := by
  intro T hT X
  rcases hr T hT X with ⟨v, st₀, t, T', L, h0, X', hL, e1, e2, ⟨⟨r, u, hv, hp, hb⟩, hF⟩, st⟩ | ⟨q, st₀, t, T', L, E, ce, h0, X', hL, e1, e2, ⟨u, hp, hb, hF⟩, hce, hcv, hcl, st⟩
  · cases hv
    obtain ⟨k1, k2, k3⟩ := vx_keep h0 e1 hS hA hf hL hF
    obtain ⟨t2, a1, b1⟩ := kk r u t T'.heap (locs ++ L) e1.symm (by rw [← e2]; exact X'.warmed.alike) hp hb k1 k2 k3 T' rfl X'
    exact ⟨t2, st t2 a1, b1⟩
  · obtain ⟨k1, k2, k3⟩ := vx_keep h0 e1 hS hAX hf hL hF
    obtain ⟨t2, a1, b1⟩ := kx E ce q u t T'.heap (locs ++ L) e1.symm (by rw [← e2]; exact X'.warmed.alike) hp hb k1 k2 k3 (by rw [e1]; exact hce) hcv hcl T' rfl X'
    exact ⟨t2, st.trans a1, b1⟩
theorem vx_callf {S SX : Type} {post : UInt32 → S → Prop} {px : SX → Prop} {B : S → State → Prop} {BX : String → SX → State → Prop} {AX : Nat → Prop} (hr : vx_Run p l e R s m args below meth c H locs cells slots mc ms (F0 m pc ls st0) rest (va_Qf post B A1 a) (vx_X px BX AX) free) (hS : va_S A0 H0 H locs) (hA : ∀ q, q < H.size → A1 q → A0 q) (hf : ∀ q, free q → A0 q) (hAX : ∀ q, q < H.size → AX q → A0 q)
    (kx : ∀ (E : String) (ce : Cell) (q9 : Addr) (u : SX) (t : State) (H1 : Heap) (locs1 : List Loc), t.heap = H1 → s.vm.Alike t.vm → px u → BX E u t → H.size ≤ H1.size → (∀ q : Nat, q < H.size → ¬ AX q → H1[q]? = H[q]?) → va_S A0 H0 H1 locs1 → H1[q9]? = some ce → ce.vm = .none → s.vm.findClass E = some ce.cls → vx_W p l e R s m args below meth c H1 locs1 (cells + mc) (slots + ms) Q (F0 m pc ls rest) q9)
    (kk : ∀ (r : UInt32) (u : S) (t : State) (H1 : Heap) (locs1 : List Loc), t.heap = H1 → s.vm.Alike t.vm → post r u → B u t → H.size ≤ H1.size → (∀ q : Nat, q < H.size → ¬ A1 q → H1[q]? = H[q]?) → va_S A0 H0 H1 locs1 → W p l e R s m args below meth c H1 locs1 (cells + mc) (slots + ms) Q (F0 m (pc + 3) ls (.float r :: rest))) : W p l e R s m args below meth c H locs cells slots Q (F0 m pc ls st0) := by
  intro T hT X
  rcases hr T hT X with ⟨v, st₀, t, T', L, h0, X', hL, e1, e2, ⟨⟨r, u, hv, hp, hb⟩, hF⟩, st⟩ | ⟨q, st₀, t, T', L, E, ce, h0, X', hL, e1, e2, ⟨u, hp, hb, hF⟩, hce, hcv, hcl, st⟩
  · cases hv
    obtain ⟨k1, k2, k3⟩ := vx_keep h0 e1 hS hA hf hL hF
    obtain ⟨t2, a1, b1⟩ := kk r u t T'.heap (locs ++ L) e1.symm (by rw [← e2]; exact X'.warmed.alike) hp hb k1 k2 k3 T' rfl X'
    exact ⟨t2, st t2 a1, b1⟩
  · obtain ⟨k1, k2, k3⟩ := vx_keep h0 e1 hS hAX hf hL hF
    obtain ⟨t2, a1, b1⟩ := kx E ce q u t T'.heap (locs ++ L) e1.symm (by rw [← e2]; exact X'.warmed.alike) hp hb k1 k2 k3 (by rw [e1]; exact hce) hcv hcl T' rfl X'
    exact ⟨t2, st.trans a1, b1⟩
theorem vx_calld {S SX : Type} {post : UInt64 → S → Prop} {px : SX → Prop} {B : S → State → Prop} {BX : String → SX → State → Prop} {AX : Nat → Prop} (hr : vx_Run p l e R s m args below meth c H locs cells slots mc ms (F0 m pc ls st0) rest (va_Qd post B A1 a) (vx_X px BX AX) free) (hS : va_S A0 H0 H locs) (hA : ∀ q, q < H.size → A1 q → A0 q) (hf : ∀ q, free q → A0 q) (hAX : ∀ q, q < H.size → AX q → A0 q)
    (kx : ∀ (E : String) (ce : Cell) (q9 : Addr) (u : SX) (t : State) (H1 : Heap) (locs1 : List Loc), t.heap = H1 → s.vm.Alike t.vm → px u → BX E u t → H.size ≤ H1.size → (∀ q : Nat, q < H.size → ¬ AX q → H1[q]? = H[q]?) → va_S A0 H0 H1 locs1 → H1[q9]? = some ce → ce.vm = .none → s.vm.findClass E = some ce.cls → vx_W p l e R s m args below meth c H1 locs1 (cells + mc) (slots + ms) Q (F0 m pc ls rest) q9)
    (kk : ∀ (r : UInt64) (u : S) (t : State) (H1 : Heap) (locs1 : List Loc), t.heap = H1 → s.vm.Alike t.vm → post r u → B u t → H.size ≤ H1.size → (∀ q : Nat, q < H.size → ¬ A1 q → H1[q]? = H[q]?) → va_S A0 H0 H1 locs1 → W p l e R s m args below meth c H1 locs1 (cells + mc) (slots + ms) Q (F0 m (pc + 3) ls (.double r :: rest))) : W p l e R s m args below meth c H locs cells slots Q (F0 m pc ls st0) := by
  intro T hT X
  rcases hr T hT X with ⟨v, st₀, t, T', L, h0, X', hL, e1, e2, ⟨⟨r, u, hv, hp, hb⟩, hF⟩, st⟩ | ⟨q, st₀, t, T', L, E, ce, h0, X', hL, e1, e2, ⟨u, hp, hb, hF⟩, hce, hcv, hcl, st⟩
  · cases hv
    obtain ⟨k1, k2, k3⟩ := vx_keep h0 e1 hS hA hf hL hF
    obtain ⟨t2, a1, b1⟩ := kk r u t T'.heap (locs ++ L) e1.symm (by rw [← e2]; exact X'.warmed.alike) hp hb k1 k2 k3 T' rfl X'
    exact ⟨t2, st t2 a1, b1⟩
  · obtain ⟨k1, k2, k3⟩ := vx_keep h0 e1 hS hAX hf hL hF
    obtain ⟨t2, a1, b1⟩ := kx E ce q u t T'.heap (locs ++ L) e1.symm (by rw [← e2]; exact X'.warmed.alike) hp hb k1 k2 k3 (by rw [e1]; exact hce) hcv hcl T' rfl X'
    exact ⟨t2, st.trans a1, b1⟩
theorem vx_callv {S SX : Type} {post : S → Prop} {px : SX → Prop} {B : S → State → Prop} {BX : String → SX → State → Prop} {AX : Nat → Prop} (hr : vx_Run p l e R s m args below meth c H locs cells slots mc ms (F0 m pc ls st0) rest (va_Qv post B A1 a) (vx_X px BX AX) free) (hS : va_S A0 H0 H locs) (hA : ∀ q, q < H.size → A1 q → A0 q) (hf : ∀ q, free q → A0 q) (hAX : ∀ q, q < H.size → AX q → A0 q)
    (kx : ∀ (E : String) (ce : Cell) (q9 : Addr) (u : SX) (t : State) (H1 : Heap) (locs1 : List Loc), t.heap = H1 → s.vm.Alike t.vm → px u → BX E u t → H.size ≤ H1.size → (∀ q : Nat, q < H.size → ¬ AX q → H1[q]? = H[q]?) → va_S A0 H0 H1 locs1 → H1[q9]? = some ce → ce.vm = .none → s.vm.findClass E = some ce.cls → vx_W p l e R s m args below meth c H1 locs1 (cells + mc) (slots + ms) Q (F0 m pc ls rest) q9)
    (kk : ∀ (u : S) (t : State) (H1 : Heap) (locs1 : List Loc), t.heap = H1 → s.vm.Alike t.vm → post u → B u t → H.size ≤ H1.size → (∀ q : Nat, q < H.size → ¬ A1 q → H1[q]? = H[q]?) → va_S A0 H0 H1 locs1 → W p l e R s m args below meth c H1 locs1 (cells + mc) (slots + ms) Q (F0 m (pc + 3) ls (rest))) : W p l e R s m args below meth c H locs cells slots Q (F0 m pc ls st0) := by
  intro T hT X
  rcases hr T hT X with ⟨v, st₀, t, T', L, h0, X', hL, e1, e2, ⟨⟨u, hv, hp, hb⟩, hF⟩, st⟩ | ⟨q, st₀, t, T', L, E, ce, h0, X', hL, e1, e2, ⟨u, hp, hb, hF⟩, hce, hcv, hcl, st⟩
  · cases hv
    obtain ⟨k1, k2, k3⟩ := vx_keep h0 e1 hS hA hf hL hF
    obtain ⟨t2, a1, b1⟩ := kk u t T'.heap (locs ++ L) e1.symm (by rw [← e2]; exact X'.warmed.alike) hp hb k1 k2 k3 T' rfl X'
    exact ⟨t2, st t2 a1, b1⟩
  · obtain ⟨k1, k2, k3⟩ := vx_keep h0 e1 hS hAX hf hL hF
    obtain ⟨t2, a1, b1⟩ := kx E ce q u t T'.heap (locs ++ L) e1.symm (by rw [← e2]; exact X'.warmed.alike) hp hb k1 k2 k3 (by rw [e1]; exact hce) hcv hcl T' rfl X'
    exact ⟨t2, st.trans a1, b1⟩
/-- caught by the row x of this method's table; the rows ahead don't take it -/
theorem vx_catch {own name : String} {E : String} {ce : Cell} {q : Addr} (hown : s.vm.findClass own = some m.cls) (pre : List ExceptionTableEntry) (x : ExceptionTableEntry) (suf : List ExceptionTableEntry) (hsplit : c.exceptionTable.toList = pre ++ x :: suf)
    (hpass : ∀ z ∈ pre, covers z pc = false ∨ (z.catchType ≠ 0 ∧ ∃ nm : String, (Cond.classLink own z.catchType nm).before args s = true ∧ va_Nc E nm s)) (hx : covers x pc = true) (h0 : x.catchType ≠ 0)
    (hlink : (Cond.classLink own x.catchType name).before args s = true) (hcast : (Cond.castable E name).before args s = true) (hcell : H[q]? = some ce) (hv : ce.vm = .none) (hcl : s.vm.findClass E = some ce.cls)
    (kk : W p l e R s m args below meth c H locs cells slots Q (F0 m x.handlerPc ls [.ref q])) : vx_W p l e R s m args below meth c H locs cells slots Q (F0 m pc ls rest) q := by
  intro T hT X
  have hpl : e.platform.magicAccessors = ({} : Platform).magicAccessors := by rw [X.admits.platform]
  obtain ⟨c3, c4, hc3, hc4, hasg⟩ := Cond.castable_spec hcast
  cases Option.some.inj (hc3.symm.trans hcl)
  obtain ⟨c5, hc5, hcl5⟩ := Cond.classLink_spec hown hlink e.platform hpl
  cases Option.some.inj (hc4.symm.trans hc5)
  obtain ⟨vm', X', st⟩ := X.thenCaughtThrough q (g := F0 m pc ls rest) rfl (Steps.refl _) (by rw [hT]; exact hcell) (by rw [hv]; rfl) (by obtain ⟨k9, h9, -⟩ := Vm.findClass_spec hcl; exact ⟨k9, h9⟩) pre x suf hsplit
    (fun z hz => by
      rcases hpass z hz with h | ⟨hz0, nm, hl1, hn1⟩
      · exact Or.inl h
      · obtain ⟨c6, hc6, hcl6⟩ := Cond.classLink_spec hown hl1 e.platform hpl
        obtain ⟨a8, b8, h1, h2, h3⟩ := hn1
        cases Option.some.inj (h1.symm.trans hcl)
        cases Option.some.inj (h2.symm.trans hc6)
        exact Or.inr ⟨hz0, _, hcl6, h3⟩) hx (Or.inr ⟨h0, c4, hcl5, hasg⟩)
  obtain ⟨t, a1, b1⟩ := kk (T.setVm vm') hT X'
  exact ⟨t, st.trans a1, b1⟩
end Rows
section Ends
variable {p : Program} {l : Launch} {e : Env} {R : Room} {s : State} {m : MethodId} {args : Array Value} {below : List Frame} {meth : Method} {c : Code} {H : Heap} {locs : List Loc} {cells slots : Nat} {Q : State → Prop}
variable {mc ms : Nat} {free : Addr → Prop} {A0 A1 : Nat → Prop} {H0 : Heap} {a : Array Value} {ls : Array Slot} {st0 rest : List Value}
variable {Qc : Array Value → State → Outcome → State → Prop} {XC : String → State → State → Prop}
/-- what a body that may throw owes at its end -/
def vx_MQ (below : List Frame) (Qc : Array Value → State → Outcome → State → Prop) (XC : String → State → State → Prop) (a : Array Value) (s : State) (mc ms : Nat) (free : Addr → Prop) : State → Prop := fun t =>
  ∃ o, t.status = .running ∧ Ended t below o ∧ vx_Q Qc XC mc ms free a s o t
theorem vx_ret {g : JFrame} {mc ms : Nat} (k : W p l e R s m args below meth c H locs cells slots (MQ below Qc args s mc ms free) g) : W p l e R s m args below meth c H locs cells slots (vx_MQ below Qc XC args s mc ms free) g := by
  intro T hT X
  obtain ⟨t, a1, o, b1, b2, b3, b4⟩ := k T hT X
  exact ⟨t, a1, o, b1, b2, Or.inl ⟨b3, b4⟩⟩
/-- not caught here: it goes on to the caller -/
theorem vx_widen {g : JFrame} {q : Addr} {k n : Nat} (h1 : cells ≤ k) (h2 : slots ≤ n) (kk : vx_W p l e R s m args below meth c H locs k n Q g q) : vx_W p l e R s m args below meth c H locs cells slots Q g q := fun T hT X => kk T hT (stand_widen X h1 h2)
theorem vx_out {pc : Nat} {E : String} {ce : Cell} {q : Addr} {mc ms : Nat} (hout : ∀ x ∈ c.exceptionTable.toList, covers x pc = false) (hlocks : meth.locks = false) (hcell : H[q]? = some ce) (hv : ce.vm = .none) (hcl : s.vm.findClass E = some ce.cls)
    (hx : ∀ t : State, t.heap = H → s.vm.Alike t.vm → XC E s t) (hf : ∀ z ∈ locs, free z.base) (hc : cells ≤ mc) (hs : slots ≤ ms) :
    vx_W p l e R s m args below meth c H locs cells slots (vx_MQ below Qc XC args s mc ms free) (F0 m pc ls rest) q := by
  intro T hT X
  obtain ⟨st1, hrun, hend, hW, hsm⟩ := X.leaveThrown q (g := F0 m pc ls rest) rfl rfl rfl hout hlocks
  have hcell9 : (T.setFrames (.throwing q :: below)).heap[q]? = some ce := by
    show T.heap[q]? = some ce
    rw [hT]; exact hcell
  exact ⟨_, st1, .threw q, hrun, hend, Or.inr ⟨q, rfl, E, ce, locs, hx _ hT hW.alike, hcell9, hv, hcl, hW, hsm.mono hc hs, hf⟩⟩
theorem vx_frame {U : State} {k n : Nat} (h : s.sameButNew ({ U with vm := s.vm } : State) locs k n) : s.heap.size ≤ U.heap.size ∧ ∀ q : Nat, q < s.heap.size → (∀ z ∈ locs, z.base ≠ q) → U.heap[q]? = s.heap[q]? := by
  obtain ⟨-, h2, -, -, -, h6⟩ := h
  refine ⟨h2, fun q hq hz => ?_⟩
  obtain ⟨c9, e1, e2, e3, e4⟩ := h6 q _ (Array.getElem?_eq_getElem hq)
  have hs : c9.slots = (s.heap[q]).slots := Array.ext_getElem? fun i => e4 i fun hm => hz _ hm rfl
  have h9 : c9 = s.heap[q] := by
    rw [hs] at e2
    exact e2
  have e5 : U.heap[q]? = some c9 := e1
  rw [e5, h9, Array.getElem?_eq_getElem hq]
/-- the words of a throw but the four that speak of the heap -/
def vx_no (w : Cond) : Bool := decide (w ≠ .isRef (.static Bundle.tN "UNASSIGNED_STACK" Bundle.steD)) && decide (w ≠ .isRef (.static Bundle.tN "SUPPRESSED_SENTINEL" Bundle.listD)) && decide (w ≠ .laysStatic Bundle.tN "UNASSIGNED_STACK" Bundle.steD) && decide (w ≠ .laysStatic Bundle.tN "SUPPRESSED_SENTINEL" Bundle.listD)
def vx_at0 (own : String) (ic : Nat) (X : String) (names : List String) : List Cond := (Bundle.ownAtoms0 own ic X names).filter vx_no
def vx_atS (own : String) (ic : Nat) (X : String) (names : List String) : List Cond := (Bundle.ownAtoms own ic X names).filter vx_no
/-- a word that the tables alone decide, or a good one -/
def vx_ot (w : Cond) : Bool := w.onTables || goodWord w
theorem vx_ot_at {args a' : Array Value} {s U : State} {w : Cond} (hW : s.WarmedH U.vm) (hvm : s.vm = U.vm) (hg : vx_ot w = true) (h : w.before args s = true) : w.before a' U = true := by
  simp only [vx_ot, Bool.or_eq_true] at hg
  rcases hg with hg | hg
  · exact va_tabs hg hvm h
  · exact word_at hW (good_of_word hg) h
/-- a list's words: the good ones out of the method's own list, the others by premises of their own -/
theorem vx_hat {args : Array Value} {s : State} {L B : List Cond} (h1 : ∀ w ∈ L.filter goodWord, w.before args s = true) (h2 : ∀ w ∈ L.filter (fun w => !goodWord w), w ∈ B) (h3 : ∀ w ∈ B, w.before args s = true) : ∀ w ∈ L, w.before args s = true := by
  intro w hw
  by_cases g : goodWord w = true
  · exact h1 w (List.mem_filter.mpr ⟨hw, g⟩)
  · refine h3 w (h2 w (List.mem_filter.mpr ⟨hw, ?_⟩))
    show (!goodWord w) = true
    cases hgw : goodWord w
    · rfl
    · exact absurd hgw g
theorem vx_c {args : Array Value} {s : State} {w : Cond} {B : List Cond} (h : w.before args s = true) (t : ∀ w ∈ B, w.before args s = true) : ∀ w' ∈ w :: B, w'.before args s = true := fun w' h' => (List.mem_cons.mp h').elim (fun e => by rw [e]; exact h) (t w')
theorem vx_n {args : Array Value} {s : State} : ∀ w ∈ ([] : List Cond), w.before args s = true := fun _ h => nomatch h
theorem vx_own {args : Array Value} {s : State} {L : List Cond} (h1 : ∀ w ∈ L.filter vx_no, w.before args s = true)
    (hU : (Cond.isRef (.static Bundle.tN "UNASSIGNED_STACK" Bundle.steD)).before args s = true) (hN : (Cond.isRef (.static Bundle.tN "SUPPRESSED_SENTINEL" Bundle.listD)).before args s = true)
    (lU : (Cond.laysStatic Bundle.tN "UNASSIGNED_STACK" Bundle.steD).before args s = true) (lN : (Cond.laysStatic Bundle.tN "SUPPRESSED_SENTINEL" Bundle.listD).before args s = true) : ∀ w ∈ L, w.before args s = true := by
  intro w hw
  by_cases e1 : w = .isRef (.static Bundle.tN "UNASSIGNED_STACK" Bundle.steD)
  · rw [e1]; exact hU
  · by_cases e2 : w = .isRef (.static Bundle.tN "SUPPRESSED_SENTINEL" Bundle.listD)
    · rw [e2]; exact hN
    · by_cases e3 : w = .laysStatic Bundle.tN "UNASSIGNED_STACK" Bundle.steD
      · rw [e3]; exact lU
      · by_cases e4 : w = .laysStatic Bundle.tN "SUPPRESSED_SENTINEL" Bundle.listD
        · rw [e4]; exact lN
        · exact h1 w (List.mem_filter.mpr ⟨hw, by unfold vx_no; rw [decide_eq_true e1, decide_eq_true e2, decide_eq_true e3, decide_eq_true e4]; rfl⟩)
/-- where a static field lies, its class's statics cell in H -/
def vx_L (C n d : String) (A : Nat → Prop) (U : State) (H : Heap) : Prop := ∃ (c : ClassId) (k : Class) (i : Nat) (f : Field) (a : Nat) (cell : Cell), U.vm.findClass C = some c ∧ U.fieldFound? C n d = some (c, k, i, f) ∧ f.isStatic = true ∧ k.statics = some a ∧ H[a]? = some cell ∧ cell.vm.isStatics = true ∧ cell.cls = c ∧ f.slot < cell.slots.size ∧ k.staticTypes[f.slot]? = some f.type ∧ ¬ A a
theorem vx_L.moved {C n d : String} {A : Nat → Prop} {u U : State} {H : Heap} (hvm : u.vm.Alike U.vm) (h : vx_L C n d A u H) : vx_L C n d A U H := by
  obtain ⟨c, k, i, f, a, cell, h1, h2, h3, h4, h5, h6, h7, h8, h9, h10⟩ := h
  obtain ⟨k', hi', he⟩ := State.fieldFound?_setVm hvm h2
  exact ⟨c, k', i, f, a, cell, by rw [hvm.findClass]; exact h1, hi', h3, by rw [he]; exact h4, h5, h6, h7, h8, by rw [he]; exact h9, h10⟩
theorem vx_L.kept {C n d : String} {A : Nat → Prop} {U : State} {H H1 : Heap} (h : vx_L C n d A U H) (hq : ∀ a : Nat, a < H.size → ¬ A a → H1[a]? = H[a]?) : vx_L C n d A U H1 := by
  obtain ⟨c, k, i, f, a, cell, h1, h2, h3, h4, h5, h6, h7, h8, h9, h10⟩ := h
  exact ⟨c, k, i, f, a, cell, h1, h2, h3, h4, by rw [hq a (Array.getElem?_eq_some_iff.mp h5).1 h10]; exact h5, h6, h7, h8, h9, h10⟩
theorem vx_L.narrow {C n d : String} {A B : Nat → Prop} {U : State} {H : Heap} (h : vx_L C n d A U H) (hAB : ∀ q, B q → A q) : vx_L C n d B U H := by
  obtain ⟨c, k, i, f, a, cell, h1, h2, h3, h4, h5, h6, h7, h8, h9, h10⟩ := h
  exact ⟨c, k, i, f, a, cell, h1, h2, h3, h4, h5, h6, h7, h8, h9, fun z => h10 (hAB _ z)⟩
theorem vx_L.word {C n d : String} {A : Nat → Prop} {s : State} {args : Array Value} (h : vx_L C n d A s s.heap) : (Cond.laysStatic C n d).before args s = true := by
  obtain ⟨c, k, i, f, a, cell, h1, h2, h3, h4, h5, h6, h7, h8, h9, -⟩ := h
  show (Cond.laysStatic C n d).holds args s none s [] = true
  exact Cond.laysStatic_of h1 h2 h3 h4 h5 h6 h7 h8 h9
/-- .. and what it holds: null or some reference -/
def vx_Zq (C n d : String) (A : Nat → Prop) (U : State) (H : Heap) : Prop := va_Zq C n d A U H ∧ vx_L C n d A U H
theorem vx_Zq.moved {C n d : String} {A : Nat → Prop} {u U : State} {H : Heap} (hvm : u.vm.Alike U.vm) (h : vx_Zq C n d A u H) : vx_Zq C n d A U H := ⟨va_Zq.moved hvm h.1, vx_L.moved hvm h.2⟩
theorem vx_Zq.kept {C n d : String} {A : Nat → Prop} {U : State} {H H1 : Heap} (h : vx_Zq C n d A U H) (hq : ∀ a : Nat, a < H.size → ¬ A a → H1[a]? = H[a]?) : vx_Zq C n d A U H1 := ⟨va_Zq.kept h.1 hq, vx_L.kept h.2 hq⟩
theorem vx_Zq.narrow {C n d : String} {A B : Nat → Prop} {U : State} {H : Heap} (h : vx_Zq C n d A U H) (hAB : ∀ q, B q → A q) : vx_Zq C n d B U H := ⟨va_Zq.narrow h.1 hAB, vx_L.narrow h.2 hAB⟩
theorem vx_Zqof {args : Array Value} {s : State} {C n d : String} {A : Nat → Prop} (hl : (Cond.laysStatic C n d).before args s = true) (hini : (Cond.initialized C).before args s = true) (h : (Cond.isRef (.static C n d)).before args s = true) (hA : ∀ a : Nat, a < s.heap.size → ¬ A a) : vx_Zq C n d A s s.heap := by
  refine ⟨va_Zqof hl hini h hA, ?_⟩
  obtain ⟨c, k, i, f, a, cell, h1, h2, h3, h4, h5, h6, h7, h8, h9⟩ := Cond.laysStatic_spec hl
  exact ⟨c, k, i, f, a, cell, h1, h2, h3, h4, h5, h6, h7, h8, h9, hA a (Array.getElem?_eq_some_iff.mp h5).1⟩
theorem vx_isRef {C n d : String} {v : Value} {A : Nat → Prop} {s : State} {args : Array Value} (h : va_Z C n d v A s s.heap) (hv : v.isRef = true) : (Cond.isRef (.static C n d)).before args s = true := by
  obtain ⟨cf, kf, fi, f, a, cell, h1, h2, h3, h4, h5, h6, h7, -⟩ := h
  have he : (Term.static C n d).eval args s none [] s = some v := by
    simp [Term.eval, State.fieldNamed?, h1, h2, h4, h5, h6, h7]
  simp only [Cond.before, Cond.holds, Cond.value, he]
  cases v <;> simp_all [Value.isRef]
theorem vx_isRefq {C n d : String} {A : Nat → Prop} {s : State} {args : Array Value} (h : va_Zq C n d A s s.heap) : (Cond.isRef (.static C n d)).before args s = true := by
  rcases h with h | ⟨t, h⟩
  · exact vx_isRef h rfl
  · exact vx_isRef h rfl
/-- the same frame, seen from here: as if the method were called anew in this heap -/
theorem vx_rebase {T : State} (X : Stand p l e R s m args below meth c T locs cells slots) {R' : Room} (hf : R'.frames ≤ R.frames) (hl : R'.locals ≤ R.locals) (hc : cells + R'.cells ≤ R.cells) (hs : slots + R'.slots ≤ R.slots) :
    Stand p l e R' ((T.setVm s.vm).setFrames (.invoking m args :: below)) m args below meth c T [] 0 0 := by
  have htop : (T.setVm s.vm).topJava?.isSome := X.here.top
  have hF : ((T.setVm s.vm).setFrames (.invoking m args :: below)).frames = .invoking m args :: below := State.frames_setFrames _ (State.cur_lt_of_top htop)
  obtain ⟨g₀, hg0⟩ := Option.isSome_iff_exists.mp htop
  obtain ⟨r, hr⟩ := State.topJava?_eq_some.mp hg0
  have hl9 : e.platform.stackLimits (T.setVm s.vm).me = e.platform.stackLimits s.me := X.limits
  have hb9 : (T.setVm s.vm).me.stackBytes = s.me.stackBytes := X.bytes
  refine ⟨X.admits, X.cas, X.clock, hF, ?_, X.hears, X.method, X.code, X.here, X.tail, X.warmed, ?_, ?_, ?_⟩
  · have h := X.room
    have hU : ((T.setVm s.vm).setFrames (.invoking m args :: below)).localsInUse = s.localsInUse := by
      rw [State.localsInUse_invoking hF (meth := meth) (c := c) X.method X.code, State.localsInUse_invoking X.frames X.method X.code]
    simp only [State.hasRoom, Bool.and_eq_true, decide_eq_true_eq] at h ⊢
    obtain ⟨⟨⟨⟨h1, h2, h3, h4, h5, h6⟩, h7⟩, h8⟩, h9⟩ := h
    rw [X.frames, List.length_cons] at h2 h3
    have q1 := X.heapSize
    have q2 := X.used
    simp only [hF, hU, List.length_cons, State.stackLimits_setFrames, State.stackBytes_setFrames, hl9, hb9]
    refine ⟨⟨⟨⟨by omega, by omega, by omega, by omega, by omega, h6⟩, ?_⟩, ?_⟩, X.book⟩
    · show T.heap.size + R'.cells ≤ e.platform.maxCells
      omega
    · show T.slotsUsed + R'.slots ≤ e.platform.maxSlots
      omega
  · rw [State.stackLimits_setFrames]; rfl
  · rw [State.stackBytes_setFrames]; rfl
  · refine ⟨?_, Nat.le_refl _, Nat.le_refl _, ?_, ?_, fun a c9 h9 => ⟨c9, h9, rfl, rfl, fun _ _ => rfl⟩⟩
    · obtain ⟨t, ht, -⟩ := State.frames_cons hr
      show T.setVm s.vm = { ((T.setVm s.vm).setFrames (.invoking m args :: below)).setFrames (T.setVm s.vm).frames with heap := T.heap, slotsUsed := T.slotsUsed }
      rw [State.setFrames_setFrames, State.setFrames_self ht]
      rfl
    · show T.slotsUsed = T.slotsUsed + ((T.heap.toList.drop T.heap.size).map (·.slots.size)).sum
      rw [List.drop_eq_nil_of_le (Nat.le_of_eq Array.length_toList)]
      rfl
    · show ((T.heap.toList.drop T.heap.size).map (·.slots.size)).sum ≤ 0
      rw [List.drop_eq_nil_of_le (Nat.le_of_eq Array.length_toList)]
      exact Nat.le_refl _
/-- 'throw new E()': new; dup; invokespecial; athrow -/
theorem vx_throw0 {cc : ByteArray} {pc : Nat} (hexec : p.tables.exec = Jvm.exec) (hb : c.code = cc) (hl : l.stackTraces = false) {own cls : String} {names : List String} {ik ic mc ms : Nat} {A : Nat → Prop}
    (hown : s.vm.findClass own = some m.cls) (hcls : Bundle.fit cls = true) (hnames : ∀ n ∈ names, Bundle.fit n = true)
    (hk : (Cond.classLink own ik cls).before args s = true) (hini : (Cond.initialized cls).before args s = true) (hat : ∀ w ∈ vx_at0 own ic cls names, w.before args s = true)
    (hgood : ∀ w ∈ Cond.classLink own ik cls :: Cond.initialized cls :: vx_at0 own ic cls names, vx_ot w = true)
    (hU : vx_Zq Bundle.tN "UNASSIGNED_STACK" Bundle.steD A s s.heap) (hN : vx_Zq Bundle.tN "SUPPRESSED_SENTINEL" Bundle.listD A s s.heap) (hS : va_S A s.heap H locs) (hsize : ls.size = c.maxLocals)
    (d0 : decode cc pc = .ok (.new ik, 3)) (d3 : decode cc (pc + 3) = .ok (.dup, 1)) (d4 : decode cc (pc + 4) = .ok (.invokespecial ic, 3)) (d7 : decode cc (pc + 7) = .ok (.athrow, 1))
    (hout : ∀ x ∈ c.exceptionTable.toList, covers x (pc + 7) = false)
    (hRframes : names.length + 3 < R.frames) (hRlocals : (rest.map fun v => v.category).sum + (13 * (names.length + 1) + 42) ≤ R.locals) (hRcells : cells + 1 ≤ R.cells) (hRslots : slots + 6 ≤ R.slots) (hlocks : meth.locks = false)
    (hx : ∀ t : State, s.vm.Alike t.vm → H.size ≤ t.heap.size → (∀ q : Nat, q < H.size → t.heap[q]? = H[q]?) → XC cls s t)
    (hf : ∀ z ∈ locs, free z.base) (hc : cells + 1 ≤ mc) (hs : slots + 6 ≤ ms) :
    W p l e R s m args below meth c H locs cells slots (vx_MQ below Qc XC args s mc ms free) (F0 m pc ls rest) := by
  intro T hT X
  have htr : e.platform.stackTraces = false := (show e.platform.stackTraces = l.stackTraces by rw [X.admits.platform]).trans hl
  have Y := vx_rebase X (R' := { frames := R.frames, locals := R.locals, cells := 1, slots := 6 }) (Nat.le_refl _) (Nat.le_refl _) hRcells hRslots
  obtain ⟨s', hA⟩ : ∃ z, z = (T.setVm s.vm).setFrames (.invoking m args :: below) := ⟨_, rfl⟩
  rw [← hA] at Y
  have hvm : s'.vm = s.vm := by rw [hA]; rfl
  have hhp : s'.heap = H := by rw [hA]; exact hT
  have hW0 : s.WarmedH s'.vm := by rw [hvm]; exact State.WarmedH.refl s
  have hat' : ∀ w ∈ vx_at0 own ic cls names, w.before args s' = true := fun w hw => vx_ot_at hW0 hvm.symm (hgood w (List.mem_cons_of_mem _ (List.mem_cons_of_mem _ hw))) (hat w hw)
  have hk' : (Cond.classLink own ik cls).before args s' = true := vx_ot_at hW0 hvm.symm (hgood _ List.mem_cons_self) hk
  have hini' : (Cond.initialized cls).before args s' = true := vx_ot_at hW0 hvm.symm (hgood _ (List.mem_cons_of_mem _ List.mem_cons_self)) hini
  have hU' : vx_Zq Bundle.tN "UNASSIGNED_STACK" Bundle.steD A s' s'.heap := by rw [hhp]; exact vx_Zq.moved hW0.alike (hU.kept hS.2.1)
  have hN' : vx_Zq Bundle.tN "SUPPRESSED_SENTINEL" Bundle.listD A s' s'.heap := by rw [hhp]; exact vx_Zq.moved hW0.alike (hN.kept hS.2.1)
  have h : ∀ w ∈ Bundle.ownAtoms0 own ic cls names, w.before args s' = true := vx_own hat' (vx_isRefq hU'.1) (vx_isRefq hN'.1) hU'.2.word hN'.2.word
  have hown' : s'.vm.findClass own = some m.cls := by rw [hvm]; exact hown
  have hins : (Cond.instantiable cls 6).before args s' = true := h _ (by simp [Bundle.ownAtoms0])
  obtain ⟨vm₁, cX, kX, hfX, hkX, -, -, X₁, st1⟩ := Y.newCold hexec (own := own) (C := cls) (index := ik) (n := 6) hown' hk' hins hini'
    (g := F0 m pc ls rest) rfl (by rw [hb]; exact d0) (Nat.le_refl _) (Nat.le_refl _)
  generalize hT1 : (T.setVm vm₁).pushCell { cls := cX, slots := kX.instanceTypes.map defaultValue, vm := .none } = T1 at X₁ st1
  have hcat : (Value.ref T.heap.size).category = 1 := rfl
  have hcellA : T1.heap[T.heap.size]? = some (freshCell cX kX) := by rw [← hT1]; exact State.heap_pushCell_size _ _
  have d3' : decode c.code (pc + 3) = .ok (.dup, 1) := by rw [hb]; exact d3
  obtain ⟨U, hsteps, hrun, hend, hW, hsame, ce, hce, hO⟩ := X₁.ctorThrow0 hexec htr (own := own) (cls := cls) (names := names) (ic := ic) hown' hcls hnames h (fun x hx => nomatch hx) hfX hkX hcellA (by rw [hhp, hT]; exact Nat.le_refl _)
    (g := { method := m, pc := pc + 4, locals := ls, stack := .ref T.heap.size :: .ref T.heap.size :: rest, locked := none }) rfl hsize rfl rfl (rest := rest) rfl
    (by rw [hb]; exact d4) (by rw [hb]; exact d7) hout hRframes (by simp only [List.map_cons, List.sum_cons, hcat]; omega) hlocks
  obtain ⟨f1, f2⟩ := vx_frame hsame
  rw [hhp] at f1 f2
  have hWs : s.WarmedH U.vm := State.WarmedH.trans hW0 hW
  have hcl : s.vm.findClass cls = some ce.cls := by
    have h9 := hO.cls
    rw [hvm] at h9
    exact h9
  have hall : s.sameButNew ({ U with vm := s.vm } : State) locs mc ms := by
    subst hA
    obtain ⟨e1, e2⟩ := hsame
    rw [State.setFrames_setFrames] at e1
    have h2 : (T.setVm s.vm).sameButNew ({ U with vm := s.vm } : State) [] (0 + 1) (0 + 6) := ⟨e1, e2⟩
    have h3 := X.same.trans h2
    rw [List.append_nil] at h3
    exact h3.mono hc hs
  refine ⟨U, ?_, .threw T.heap.size, hrun, hend, Or.inr ⟨T.heap.size, rfl, cls, ce, locs, hx U hWs.alike f1 (fun q hq => f2 q hq (fun z hz => nomatch hz)), hce, hO.vm, hcl, hWs, hall, hf⟩⟩
  refine st1 _ ?_
  show Steps p.tables e below (T1.setTop { method := m, pc := pc + 3, locals := ls, stack := .ref T.heap.size :: rest, locked := none }) _
  jvm_step X₁.here [X₁.here.top, hexec, d3', Value.category]
  exact hsteps
/-- 'throw new E("text")': new; dup; ldc; invokespecial; athrow -/
theorem vx_throwS {cc : ByteArray} {pc : Nat} (hexec : p.tables.exec = Jvm.exec) (hb : c.code = cc) (hl : l.stackTraces = false) {own cls text : String} {names : List String} {ik is ic mc ms sa : Nat} {A : Nat → Prop}
    (hown : s.vm.findClass own = some m.cls) (hcls : Bundle.fit cls = true) (hnames : ∀ n ∈ names, Bundle.fit n = true)
    (hk : (Cond.classLink own ik cls).before args s = true) (hini : (Cond.initialized cls).before args s = true) (hstr : vk_R own is text sa s) (hat : ∀ w ∈ vx_atS own ic cls names, w.before args s = true)
    (hgood : ∀ w ∈ Cond.classLink own ik cls :: Cond.initialized cls :: vx_atS own ic cls names, vx_ot w = true)
    (hU : vx_Zq Bundle.tN "UNASSIGNED_STACK" Bundle.steD A s s.heap) (hN : vx_Zq Bundle.tN "SUPPRESSED_SENTINEL" Bundle.listD A s s.heap) (hS : va_S A s.heap H locs) (hsize : ls.size = c.maxLocals)
    (d0 : decode cc pc = .ok (.new ik, 3)) (d3 : decode cc (pc + 3) = .ok (.dup, 1)) (d4 : decode cc (pc + 4) = .ok (.ldc is, 2)) (d6 : decode cc (pc + 6) = .ok (.invokespecial ic, 3)) (d9 : decode cc (pc + 9) = .ok (.athrow, 1))
    (hout : ∀ x ∈ c.exceptionTable.toList, covers x (pc + 9) = false)
    (hRframes : names.length + 3 < R.frames) (hRlocals : (rest.map fun v => v.category).sum + (13 * (names.length + 1) + 43) ≤ R.locals) (hRcells : cells + 1 ≤ R.cells) (hRslots : slots + 6 ≤ R.slots) (hlocks : meth.locks = false)
    (hx : ∀ t : State, s.vm.Alike t.vm → H.size ≤ t.heap.size → (∀ q : Nat, q < H.size → t.heap[q]? = H[q]?) → XC cls s t)
    (hf : ∀ z ∈ locs, free z.base) (hc : cells + 1 ≤ mc) (hs : slots + 6 ≤ ms) :
    W p l e R s m args below meth c H locs cells slots (vx_MQ below Qc XC args s mc ms free) (F0 m pc ls rest) := by
  intro T hT X
  have htr : e.platform.stackTraces = false := (show e.platform.stackTraces = l.stackTraces by rw [X.admits.platform]).trans hl
  have Y := vx_rebase X (R' := { frames := R.frames, locals := R.locals, cells := 1, slots := 6 }) (Nat.le_refl _) (Nat.le_refl _) hRcells hRslots
  obtain ⟨s', hA⟩ : ∃ z, z = (T.setVm s.vm).setFrames (.invoking m args :: below) := ⟨_, rfl⟩
  rw [← hA] at Y
  have hvm : s'.vm = s.vm := by rw [hA]; rfl
  have hhp : s'.heap = H := by rw [hA]; exact hT
  have hW0 : s.WarmedH s'.vm := by rw [hvm]; exact State.WarmedH.refl s
  have hat' : ∀ w ∈ vx_atS own ic cls names, w.before args s' = true := fun w hw => vx_ot_at hW0 hvm.symm (hgood w (List.mem_cons_of_mem _ (List.mem_cons_of_mem _ hw))) (hat w hw)
  have hk' : (Cond.classLink own ik cls).before args s' = true := vx_ot_at hW0 hvm.symm (hgood _ List.mem_cons_self) hk
  have hini' : (Cond.initialized cls).before args s' = true := vx_ot_at hW0 hvm.symm (hgood _ (List.mem_cons_of_mem _ List.mem_cons_self)) hini
  have hU' : vx_Zq Bundle.tN "UNASSIGNED_STACK" Bundle.steD A s' s'.heap := by rw [hhp]; exact vx_Zq.moved hW0.alike (hU.kept hS.2.1)
  have hN' : vx_Zq Bundle.tN "SUPPRESSED_SENTINEL" Bundle.listD A s' s'.heap := by rw [hhp]; exact vx_Zq.moved hW0.alike (hN.kept hS.2.1)
  have h : ∀ w ∈ Bundle.ownAtoms own ic cls names, w.before args s' = true := vx_own hat' (vx_isRefq hU'.1) (vx_isRefq hN'.1) hU'.2.word hN'.2.word
  have hown' : s'.vm.findClass own = some m.cls := by rw [hvm]; exact hown
  have hins : (Cond.instantiable cls 6).before args s' = true := h _ (by simp [Bundle.ownAtoms])
  obtain ⟨vm₁, cX, kX, hfX, hkX, -, -, X₁, st1⟩ := Y.newCold hexec (own := own) (C := cls) (index := ik) (n := 6) hown' hk' hins hini'
    (g := F0 m pc ls rest) rfl (by rw [hb]; exact d0) (Nat.le_refl _) (Nat.le_refl _)
  generalize hT1 : (T.setVm vm₁).pushCell { cls := cX, slots := kX.instanceTypes.map defaultValue, vm := .none } = T1 at X₁ st1
  have hcat : (Value.ref T.heap.size).category = 1 := rfl
  have hcellA : T1.heap[T.heap.size]? = some (freshCell cX kX) := by rw [← hT1]; exact State.heap_pushCell_size _ _
  have d3' : decode c.code (pc + 3) = .ok (.dup, 1) := by rw [hb]; exact d3
  have d4' : decode c.code (pc + 4) = .ok (.ldc is, 2) := by rw [hb]; exact d4
  have hstr' : vk_R own is text sa s' := vk_R.warm hW0 hstr
  obtain ⟨U, hsteps, hrun, hend, hW, hsame, ce, hce, hO⟩ := X₁.ctorThrowS hexec htr (own := own) (cls := cls) (names := names) (ic := ic) hown' hcls hnames h (fun x hx => nomatch hx) hfX hkX hcellA (by rw [hhp, hT]; exact Nat.le_refl _) (msg := .ref sa) rfl
    (g := { method := m, pc := pc + 6, locals := ls, stack := .ref sa :: .ref T.heap.size :: .ref T.heap.size :: rest, locked := none }) rfl hsize rfl rfl (rest := rest) rfl
    (by rw [hb]; exact d6) (by rw [hb]; exact d9) hout hRframes (by simp only [List.map_cons, List.sum_cons, hcat]; omega) hlocks
  obtain ⟨f1, f2⟩ := vx_frame hsame
  rw [hhp] at f1 f2
  have hWs : s.WarmedH U.vm := State.WarmedH.trans hW0 hW
  have hcl : s.vm.findClass cls = some ce.cls := by
    have h9 := hO.cls
    rw [hvm] at h9
    exact h9
  have hall : s.sameButNew ({ U with vm := s.vm } : State) locs mc ms := by
    subst hA
    obtain ⟨e1, e2⟩ := hsame
    rw [State.setFrames_setFrames] at e1
    have h2 : (T.setVm s.vm).sameButNew ({ U with vm := s.vm } : State) [] (0 + 1) (0 + 6) := ⟨e1, e2⟩
    have h3 := X.same.trans h2
    rw [List.append_nil] at h3
    exact h3.mono hc hs
  refine ⟨U, ?_, .threw T.heap.size, hrun, hend, Or.inr ⟨T.heap.size, rfl, cls, ce, locs, hx U hWs.alike f1 (fun q hq => f2 q hq (fun z hz => nomatch hz)), hce, hO.vm, hcl, hWs, hall, hf⟩⟩
  refine st1 _ ?_
  show Steps p.tables e below (T1.setTop { method := m, pc := pc + 3, locals := ls, stack := .ref T.heap.size :: rest, locked := none }) _
  jvm_step X₁.here [X₁.here.top, hexec, d3', Value.category]
  exact X₁.ldcString hexec (own := own) (text := text) (index := is) (a := sa) hown' hstr'.1 hstr'.2
    (g := { method := m, pc := pc + 4, locals := ls, stack := .ref T.heap.size :: .ref T.heap.size :: rest, locked := none }) rfl d4' _ hsteps
/-- 'throw new E("text")', the text by a wide index -/
theorem vx_throwSW {cc : ByteArray} {pc : Nat} (hexec : p.tables.exec = Jvm.exec) (hb : c.code = cc) (hl : l.stackTraces = false) {own cls text : String} {names : List String} {ik is ic mc ms sa : Nat} {A : Nat → Prop}
    (hown : s.vm.findClass own = some m.cls) (hcls : Bundle.fit cls = true) (hnames : ∀ n ∈ names, Bundle.fit n = true)
    (hk : (Cond.classLink own ik cls).before args s = true) (hini : (Cond.initialized cls).before args s = true) (hstr : vk_R own is text sa s) (hat : ∀ w ∈ vx_atS own ic cls names, w.before args s = true)
    (hgood : ∀ w ∈ Cond.classLink own ik cls :: Cond.initialized cls :: vx_atS own ic cls names, vx_ot w = true)
    (hU : vx_Zq Bundle.tN "UNASSIGNED_STACK" Bundle.steD A s s.heap) (hN : vx_Zq Bundle.tN "SUPPRESSED_SENTINEL" Bundle.listD A s s.heap) (hS : va_S A s.heap H locs) (hsize : ls.size = c.maxLocals)
    (d0 : decode cc pc = .ok (.new ik, 3)) (d3 : decode cc (pc + 3) = .ok (.dup, 1)) (d4 : decode cc (pc + 4) = .ok (.ldc_w is, 3)) (d7 : decode cc (pc + 7) = .ok (.invokespecial ic, 3)) (d10 : decode cc (pc + 10) = .ok (.athrow, 1))
    (hout : ∀ x ∈ c.exceptionTable.toList, covers x (pc + 10) = false)
    (hRframes : names.length + 3 < R.frames) (hRlocals : (rest.map fun v => v.category).sum + (13 * (names.length + 1) + 43) ≤ R.locals) (hRcells : cells + 1 ≤ R.cells) (hRslots : slots + 6 ≤ R.slots) (hlocks : meth.locks = false)
    (hx : ∀ t : State, s.vm.Alike t.vm → H.size ≤ t.heap.size → (∀ q : Nat, q < H.size → t.heap[q]? = H[q]?) → XC cls s t)
    (hf : ∀ z ∈ locs, free z.base) (hc : cells + 1 ≤ mc) (hs : slots + 6 ≤ ms) :
    W p l e R s m args below meth c H locs cells slots (vx_MQ below Qc XC args s mc ms free) (F0 m pc ls rest) := by
  intro T hT X
  have htr : e.platform.stackTraces = false := (show e.platform.stackTraces = l.stackTraces by rw [X.admits.platform]).trans hl
  have Y := vx_rebase X (R' := { frames := R.frames, locals := R.locals, cells := 1, slots := 6 }) (Nat.le_refl _) (Nat.le_refl _) hRcells hRslots
  obtain ⟨s', hA⟩ : ∃ z, z = (T.setVm s.vm).setFrames (.invoking m args :: below) := ⟨_, rfl⟩
  rw [← hA] at Y
  have hvm : s'.vm = s.vm := by rw [hA]; rfl
  have hhp : s'.heap = H := by rw [hA]; exact hT
  have hW0 : s.WarmedH s'.vm := by rw [hvm]; exact State.WarmedH.refl s
  have hat' : ∀ w ∈ vx_atS own ic cls names, w.before args s' = true := fun w hw => vx_ot_at hW0 hvm.symm (hgood w (List.mem_cons_of_mem _ (List.mem_cons_of_mem _ hw))) (hat w hw)
  have hk' : (Cond.classLink own ik cls).before args s' = true := vx_ot_at hW0 hvm.symm (hgood _ List.mem_cons_self) hk
  have hini' : (Cond.initialized cls).before args s' = true := vx_ot_at hW0 hvm.symm (hgood _ (List.mem_cons_of_mem _ List.mem_cons_self)) hini
  have hU' : vx_Zq Bundle.tN "UNASSIGNED_STACK" Bundle.steD A s' s'.heap := by rw [hhp]; exact vx_Zq.moved hW0.alike (hU.kept hS.2.1)
  have hN' : vx_Zq Bundle.tN "SUPPRESSED_SENTINEL" Bundle.listD A s' s'.heap := by rw [hhp]; exact vx_Zq.moved hW0.alike (hN.kept hS.2.1)
  have h : ∀ w ∈ Bundle.ownAtoms own ic cls names, w.before args s' = true := vx_own hat' (vx_isRefq hU'.1) (vx_isRefq hN'.1) hU'.2.word hN'.2.word
  have hown' : s'.vm.findClass own = some m.cls := by rw [hvm]; exact hown
  have hins : (Cond.instantiable cls 6).before args s' = true := h _ (by simp [Bundle.ownAtoms])
  obtain ⟨vm₁, cX, kX, hfX, hkX, -, -, X₁, st1⟩ := Y.newCold hexec (own := own) (C := cls) (index := ik) (n := 6) hown' hk' hins hini'
    (g := F0 m pc ls rest) rfl (by rw [hb]; exact d0) (Nat.le_refl _) (Nat.le_refl _)
  generalize hT1 : (T.setVm vm₁).pushCell { cls := cX, slots := kX.instanceTypes.map defaultValue, vm := .none } = T1 at X₁ st1
  have hcat : (Value.ref T.heap.size).category = 1 := rfl
  have hcellA : T1.heap[T.heap.size]? = some (freshCell cX kX) := by rw [← hT1]; exact State.heap_pushCell_size _ _
  have d3' : decode c.code (pc + 3) = .ok (.dup, 1) := by rw [hb]; exact d3
  have d4' : decode c.code (pc + 4) = .ok (.ldc_w is, 3) := by rw [hb]; exact d4
  have hstr' : vk_R own is text sa s' := vk_R.warm hW0 hstr
  obtain ⟨U, hsteps, hrun, hend, hW, hsame, ce, hce, hO⟩ := X₁.ctorThrowS hexec htr (own := own) (cls := cls) (names := names) (ic := ic) hown' hcls hnames h (fun x hx => nomatch hx) hfX hkX hcellA (by rw [hhp, hT]; exact Nat.le_refl _) (msg := .ref sa) rfl
    (g := { method := m, pc := pc + 7, locals := ls, stack := .ref sa :: .ref T.heap.size :: .ref T.heap.size :: rest, locked := none }) rfl hsize rfl rfl (rest := rest) rfl
    (by rw [hb]; exact d7) (by rw [hb]; exact d10) hout hRframes (by simp only [List.map_cons, List.sum_cons, hcat]; omega) hlocks
  obtain ⟨f1, f2⟩ := vx_frame hsame
  rw [hhp] at f1 f2
  have hWs : s.WarmedH U.vm := State.WarmedH.trans hW0 hW
  have hcl : s.vm.findClass cls = some ce.cls := by
    have h9 := hO.cls
    rw [hvm] at h9
    exact h9
  have hall : s.sameButNew ({ U with vm := s.vm } : State) locs mc ms := by
    subst hA
    obtain ⟨e1, e2⟩ := hsame
    rw [State.setFrames_setFrames] at e1
    have h2 : (T.setVm s.vm).sameButNew ({ U with vm := s.vm } : State) [] (0 + 1) (0 + 6) := ⟨e1, e2⟩
    have h3 := X.same.trans h2
    rw [List.append_nil] at h3
    exact h3.mono hc hs
  refine ⟨U, ?_, .threw T.heap.size, hrun, hend, Or.inr ⟨T.heap.size, rfl, cls, ce, locs, hx U hWs.alike f1 (fun q hq => f2 q hq (fun z hz => nomatch hz)), hce, hO.vm, hcl, hWs, hall, hf⟩⟩
  refine st1 _ ?_
  show Steps p.tables e below (T1.setTop { method := m, pc := pc + 3, locals := ls, stack := .ref T.heap.size :: rest, locked := none }) _
  jvm_step X₁.here [X₁.here.top, hexec, d3', Value.category]
  exact X₁.ldcStringW hexec (own := own) (text := text) (index := is) (a := sa) hown' hstr'.1 hstr'.2
    (g := { method := m, pc := pc + 4, locals := ls, stack := .ref T.heap.size :: .ref T.heap.size :: rest, locked := none }) rfl d4' _ hsteps
end Ends
section Bodies
variable {l : Launch}
theorem vx_ofW {y : MethodName} {ws ws' : List Cond} {rm : Room} {Pc : Array Value → State → Prop} {Qc : Array Value → State → Outcome → State → Prop} {XC : String → State → State → Prop} {mc ms : Nat} {free : Addr → Prop} {cc : ByteArray} {maxL : Nat} {ret : Option FieldType}
    (hy : plainName y.cls = true) (hw : ws = Cond.code y cc maxL ret :: ws')
    (body : ∀ p e s m args below meth c s₁, BodyLoose p l y (headSpec ws rm) cc maxL ret e s m args below meth c s₁ → c.maxLocals = maxL → (∀ x ∈ c.exceptionTable.toList, False) → Pc args s →
      W p l e (headSpec ws rm).room s m args below meth c s.heap [] 0 0 (vx_MQ below Qc XC args s mc ms free) (entryFrame m args maxL)) : vx_Met l y ws rm Pc Qc XC mc ms free := by
  refine MetFree.of_bodyS (code := cc) (maxLocals := maxL) (ret := ret) hy ?_ ?_
  · intro args s m h hn
    obtain ⟨meth, c, h1, h2, h3, h4, h5, h6, -, -⟩ := Cond.code_spec hn (atoms_spec (ws := ws) h _ (by rw [hw]; exact List.mem_cons_self))
    exact ⟨meth, c, h1, h2, h3, h4, h5, h6⟩
  · intro p e s m args below meth c s₁ B hml hP _
    have hh0 : s₁.heap = s.heap := by rw [B.state]; rfl
    have ht : ∀ x ∈ c.exceptionTable.toList, False := by
      obtain ⟨meth9, c9, h1, h2, -, -, -, -, h7, -⟩ := Cond.code_spec B.named (atoms_spec (ws := ws) B.pre _ (by rw [hw]; exact List.mem_cons_self))
      cases Option.some.inj (h1.symm.trans B.method)
      cases Option.some.inj (h2.symm.trans (Stand.of_body B).code)
      intro x hx
      rw [Array.isEmpty_iff.mp h7] at hx
      cases hx
    obtain ⟨t, a1, o, b1, b2, b3⟩ := body p e s m args below meth c s₁ B hml ht hP s₁ hh0 (Stand.of_body B)
    exact ⟨t, o, a1, b1, b2, b3⟩
/-- the table of a body with handlers -/
theorem vx_table {p : Program} {x y : MethodName} {S : Spec} {cc bytes : ByteArray} {maxL maxL' : Nat} {ret ret' : Option FieldType} {e : Env} {s s₁ : State} {m : MethodId} {args : Array Value} {below : List Frame} {meth : Method} {c : Code} {hh : List (Nat × Nat × Nat × Nat)}
    (B : BodyLoose p l y S cc maxL ret e s m args below meth c s₁) (h : (Cond.codeWith y bytes maxL' ret' hh).before args s = true) : c.exceptionTable.toList = tableOf hh := by
  obtain ⟨m9, meth9, c9, hn9, h1, h2, -, -, h6, -⟩ := Cond.codeWith_spec h
  cases Option.some.inj (hn9.symm.trans B.named)
  cases Option.some.inj (h1.symm.trans B.method)
  cases Option.some.inj (h2.symm.trans (Stand.of_body B).code)
  rw [← h6, table_eq]
end Bodies
end VXA
/-! ===== END ===== -/
/-! ===== BEGIN a static call of a method with an exception table ===== -/
section VXS
variable {p : Program} {l : Launch} {e : Env} {R : Room} {s : State} {m : MethodId} {args : Array Value} {below : List Frame} {meth : Method} {c : Code} {T : State} {H : Heap} {locs : List Loc} {cells slots : Nat}
abbrev vx_CSW (R : Room) (s : State) (args : Array Value) (own : String) (index : Nat) (y : MethodName) (bytes : ByteArray) (maxL : Nat) (ret : Option FieldType) (hh : List (Nat × Nat × Nat × Nat)) (ws : List Cond) (rm : Room) (mc ms n : Nat) : Prop :=
  (rm.cells = mc ∧ rm.slots = ms ∧ rm.frames + 1 ≤ R.frames ∧ 8 + (maxL + 11) + rm.locals ≤ R.locals ∧ (∀ w ∈ ws, ∀ (a' : Array Value) (U : State), s.WarmedH U.vm → w.before a' U = true) ∧ Cond.codeWith y bytes maxL ret hh ∈ ws) ∧
  (Cond.codeWith y bytes maxL ret hh).before args s = true ∧ (Cond.initialized y.cls).before args s = true ∧ (y.cls ≠ "java/lang/invoke/MethodHandle" ∧ y.cls ≠ "java/lang/invoke/VarHandle") ∧
  (∀ sig, parseMethodDescriptor y.desc = some sig → n = sig.parameters.length) ∧ (Cond.methodLink own index y).before args s = true ∧ (Cond.static y).before args s = true
theorem vx_cwSW {own : String} {index maxL mc ms : Nat} {y : MethodName} {bytes : ByteArray} {ret : Option FieldType} {hh : List (Nat × Nat × Nat × Nat)} {Ts ws ws' : List Cond} {rm : Room} (n : Nat) (ht : ∀ w ∈ Ts, w.before args s = true) (hT : GoodIn Ts (va_wsS own index y ws)) (hw : ws = Cond.codeWith y bytes maxL ret hh :: ws') (hrc : rm.cells = mc) (hrs : rm.slots = ms)
    (hd : y.cls ≠ "java/lang/invoke/MethodHandle" ∧ y.cls ≠ "java/lang/invoke/VarHandle" ∧ (parseMethodDescriptor y.desc).map (fun d => d.parameters.length) = some n) (hR : rm.frames + 1 ≤ R.frames ∧ 8 + (maxL + 11) + rm.locals ≤ R.locals) :
    vx_CSW R s args own index y bytes maxL ret hh ws rm mc ms n := by
  have ok : ∀ w ∈ va_wsS own index y ws, w.before args s = true := fun w h => ht w (hT w h).1
  have hG : GoodIn Ts ws := fun w h => hT w (by unfold va_wsS; exact List.mem_append_right _ h)
  have hc : Cond.codeWith y bytes maxL ret hh ∈ ws := by rw [hw]; exact List.mem_cons_self
  refine ⟨⟨hrc, hrs, hR.1, hR.2, pay_in ht hG, hc⟩, ht _ (hG _ hc).1, ok _ (by simp [va_wsS]), ⟨hd.1, hd.2.1⟩, fun sig h => ?_, ok _ (by simp [va_wsS]), ok _ (by simp [va_wsS])⟩
  have h2 := hd.2.2
  rw [h] at h2
  exact (Option.some.inj h2).symm
theorem vx_callSW (X : Stand p l e R s m args below meth c T locs cells slots) (hexec : p.tables.exec = Jvm.exec) {own : String} {index : Nat} {y : MethodName} {bytes : ByteArray} {maxL : Nat} {ret : Option FieldType} {hh : List (Nat × Nat × Nat × Nat)}
    (hown : s.vm.findClass own = some m.cls) (hlink : (Cond.methodLink own index y).before args s = true) (hstat : (Cond.static y).before args s = true) (hinit : (Cond.initialized y.cls).before args s = true)
    (hcode : (Cond.codeWith y bytes maxL ret hh).before args s = true) (hy : y.cls ≠ "java/lang/invoke/MethodHandle" ∧ y.cls ≠ "java/lang/invoke/VarHandle")
    {W9 : Nat} {Pre : Pt → Array Value → Prop} {Post : Pt → Array Value → Option Value → Pt → Prop} (hK : Back l R p e below s args y 3 W9 Pre Post)
    {g : JFrame} (hg : g.method = m) (hsize : g.locals.size = c.maxLocals) {argsL rest : List Value} (hlen : ∀ sig, parseMethodDescriptor y.desc = some sig → argsL.length = sig.parameters.length)
    (hstack : g.stack = argsL.reverse ++ rest) (hW : 2 * g.monitorRoom + (rest.map fun v => v.category).sum ≤ W9) (hdg : decode c.code g.pc = .ok (.invokestatic index, 3))
    (hpre : ∀ vm₁, s.WarmedH vm₁ → Pre ⟨T.setVm vm₁, locs, cells, slots⟩ argsL.toArray) :
    ∃ (v : Option Value) (vm₁ : Vm) (B : Pt), s.WarmedH vm₁ ∧ Stand p l e R s m args below meth c B.U B.locs B.cells B.slots ∧ Post ⟨T.setVm vm₁, locs, cells, slots⟩ argsL.toArray v B ∧
      ∀ target, Steps p.tables e below (B.U.setTop { g with pc := g.pc + 3, stack := v.toList ++ rest }) target → Steps p.tables e below (T.setTop g) target := by
  obtain ⟨mk, methM, cM, hnamed, hmethM, -, -, -, -, -, -, hsigM⟩ := Cond.codeWith_spec hcode
  have hstatic : methM.isStatic = true := Cond.static_spec hnamed hmethM hstat
  obtain ⟨kP, hkP, -⟩ := className_of_methodNamed hnamed
  have hinitP : kP.init = .initialized := Cond.initialized_spec (findClass_of_methodNamed hnamed) hkP hinit
  obtain ⟨vm₁, X₁, hstep₁⟩ := X.invokestatic hexec hown hlink hnamed hmethM hstatic hkP hinitP hy (g := g) hg (argsL := argsL) (rest := rest) (hlen _ hsigM) hstack hdg
  obtain ⟨v, B, X', hpost, hsteps⟩ := hK m meth c ⟨T.setVm vm₁, locs, cells, slots⟩ { g with stack := rest } (.invokestatic index) mk argsL.toArray X₁ hg hsize hdg hW (X₁.named hnamed) (hpre vm₁ X₁.warmed)
  exact ⟨v, vm₁, B, X₁.warmed, X', hpost, fun target h => hstep₁ _ fun acts => by rw [doInvoke_state]; exact hsteps.trans h⟩
theorem vx_runSW {y : MethodName} {bytes cc : ByteArray} {maxL nL mc ms n index : Nat} {ret : Option FieldType} {hh : List (Nat × Nat × Nat × Nat)} {ws : List Cond} {rm : Room} {Pc : Array Value → State → Prop} {Qc : Array Value → State → Outcome → State → Prop} {free : Addr → Prop} {Ts : List Cond} {own : String} {As rest : List Value} {g : JFrame}
    (S : CallFix p m c cc nL s args Ts own) (hM : Met l y ws rm Pc Qc mc ms free) (cw : vx_CSW R s args own index y bytes maxL ret hh ws rm mc ms n) (hp : PreS s H Pc As)
    (hg : g.method = m) (hn : As.length = n) (hsize : g.locals.size = nL) (hstack : g.stack = As.reverse ++ rest) (hW : 2 * g.monitorRoom + (rest.map fun v => v.category).sum ≤ 8) (hdg : decode cc g.pc = .ok (.invokestatic index, 3)) (hf : cells + mc ≤ R.cells ∧ slots + ms ≤ R.slots) :
    va_Run p l e R s m args below meth c H locs cells slots mc ms g rest (Qc As.toArray) (free) := by
  obtain ⟨⟨hrc, hrs, hfr, hlo, hws, hcw⟩, hcode, hini, hy, hlen, hl, hstt⟩ := cw
  have hK : Back l R p e below s args y 3 8 (PreOf R mc ms Pc) (PostOf Qc mc ms free) := va_backW (hh := hh) (bytes := bytes) (maxL := maxL) (ret := ret) hM hp.1 hrc hrs hfr hlo hws hcw (fun a' U hW => word_at hW (Or.inl (by first | rfl | simp [Cond.onTables, Cond.keeps, Cond.steady])) hini)
  obtain ⟨hx, hb, hml, ho, -⟩ := S
  intro T hT X
  obtain ⟨v, vm₁, ⟨U', l2, c2, s2⟩, hW₁, X', ⟨g', mk, t, L, e1, e2, hq, h1, hL, h2, h3⟩, st⟩ := vx_callSW X hx (hh := hh) (bytes := bytes) (maxL := maxL) (ret := ret) ho hl hstt hini hcode hy hK hg (hsize.trans hml.symm) (argsL := As) (rest := rest) (fun sig h => hn.trans (hlen sig h)) hstack hW (by rw [hb]; exact hdg)
    (fun vm₁ hW₁ => ⟨hf.1, hf.2, hp.2 (T.setVm vm₁) hT hW₁⟩)
  dsimp only [Pt.U, Pt.locs, Pt.cells, Pt.slots] at X' e1 e2 h1 h2 h3 st
  subst h1; subst h2; subst h3
  exact ⟨v, (T.setVm vm₁).calling g' mk As.toArray, t, U', L, hT, X', hL, e1, e2, hq, st⟩
/-- not caught here, past rows that name other classes: it goes on to the caller -/
theorem vx_outP {p : Program} {l : Launch} {e : Env} {R : Room} {s : State} {m : MethodId} {args : Array Value} {below : List Frame} {meth : Method} {c : Code} {H : Heap} {locs : List Loc} {cells slots : Nat} {free : Addr → Prop} {ls : Array Slot} {rest : List Value} {Qc : Array Value → State → Outcome → State → Prop} {XC : String → State → State → Prop}
    {pc : Nat} {own E : String} {ce : Cell} {q : Addr} {mc ms : Nat} (hown : s.vm.findClass own = some m.cls) (hlocks : meth.locks = false)
    (hpass : ∀ z ∈ c.exceptionTable.toList, covers z pc = false ∨ (z.catchType ≠ 0 ∧ ∃ nm : String, (Cond.classLink own z.catchType nm).before args s = true ∧ va_Nc E nm s)) (hcell : H[q]? = some ce) (hv : ce.vm = .none) (hcl : s.vm.findClass E = some ce.cls)
    (hx : ∀ t : State, t.heap = H → s.vm.Alike t.vm → XC E s t) (hf : ∀ z ∈ locs, free z.base) (hc : cells ≤ mc) (hs : slots ≤ ms) :
    vx_W p l e R s m args below meth c H locs cells slots (vx_MQ below Qc XC args s mc ms free) (F0 m pc ls rest) q := by
  intro T hT X
  have hpl : e.platform.magicAccessors = ({} : Platform).magicAccessors := by rw [X.admits.platform]
  obtain ⟨vm', hW', X', st⟩ := X.outThrough hlocks q (g := F0 m pc ls rest) rfl rfl rfl (cell := ce) (by rw [hT]; exact hcell) (by rw [hv]; rfl)
    (by obtain ⟨k9, h9, -⟩ := Vm.findClass_spec hcl; exact ⟨k9, h9⟩) (fun z hz => by
      rcases hpass z hz with h | ⟨hz0, nm, hl1, hn1⟩
      · exact Or.inl h
      · obtain ⟨c6, hc6, hcl6⟩ := Cond.classLink_spec hown hl1 e.platform hpl
        obtain ⟨a8, b8, h1, h2, h3⟩ := hn1
        cases Option.some.inj (h1.symm.trans hcl)
        cases Option.some.inj (h2.symm.trans hc6)
        exact Or.inr ⟨hz0, _, hcl6, h3⟩)
  obtain ⟨g₀, hfr⟩ := X'.frames_eq
  have hcell9 : ((T.setVm vm').setFrames (.throwing q :: below)).heap[q]? = some ce := by
    show T.heap[q]? = some ce
    rw [hT]; exact hcell
  have hend : Ended ((T.setVm vm').setFrames (.throwing q :: below)) below (.threw q) := State.frames_setFrames _ (State.cur_lt_of_frames hfr)
  refine ⟨(T.setVm vm').setFrames (.throwing q :: below), ?_, .threw q, X'.here.running, hend, Or.inr ⟨q, rfl, E, ce, locs, hx _ hT (X'.ends _).1.alike, hcell9, hv, hcl, (X'.ends _).1, (X'.ends _).2.mono hc hs, hf⟩⟩
  rw [X.pushThrowing_eq]
  exact st
/-- a thing of a world lies in the heap -/
theorem vx_lt {D : va_G} {cl : List vw_C} {ws : va_W} {H1 : Heap} (h : va_P D cl ws H1) {k : Nat} {q : Nat × va_E} (hk : ws[k]? = some q) : q.1 < H1.size := (h k q hk).lt
end VXS
/-! ===== END ===== -/
/-! ===== BEGIN methods with a table of their own: called by a name, returning or throwing ===== -/
section VXH
/-! vx_backW, vx_callVX, vx_callSX, vx_callVW, vx_runVW, vx_runVX, vx_runSX, vx_ofWH follow the same proofs as their sisters above (Free/Laws.lean, Shelf42/LK1.lean); vx_outP calls Shelf42/NT130.lean (outThrough). -/
section
variable {l : Launch} {R : Room} {p : Program} {e : Env} {below : List Frame} {s : State} {sargs : Array Value} {y : MethodName} {len W9 : Nat}
theorem vx_backW {ws : List Cond} {rm : Room} {Pc : Array Value → State → Prop} {Qc : Array Value → State → Outcome → State → Prop} {XC : String → State → State → Prop} {mc ms : Nat} {free : Addr → Prop} {bytes : ByteArray} {maxL : Nat} {ret : Option FieldType} {hh : List (Nat × Nat × Nat × Nat)}
    (hM : vx_Met l y ws rm Pc Qc XC mc ms free) (hblind : FrameBlind Pc) (hrc : rm.cells = mc) (hrs : rm.slots = ms)
    (hframes : rm.frames + 1 ≤ R.frames) (hlocals : W9 + (maxL + 11) + rm.locals ≤ R.locals)
    (hws : ∀ w ∈ ws, ∀ a' U, s.WarmedH U.vm → w.before a' U = true) (hcode : Cond.codeWith y bytes maxL ret hh ∈ ws) (hinit : ∀ a' U, s.WarmedH U.vm → (Cond.initialized y.cls).before a' U = true) :
    vx_Back l R p e below s sargs y len W9 (PreOf R mc ms Pc) (PostOf Qc mc ms free) (vx_Post XC mc ms free) := by
  intro m meth c A g ig mk a X hg hsize hdg hW hn hp
  have h1 : (headSpec ws rm).pre.before a A.U = true := atoms_intro fun w hw => hws w hw _ _ X.warmed
  have h2 : (Cond.codeWith y bytes maxL ret hh).before a A.U = true := hws _ hcode _ _ X.warmed
  have h3 : (Cond.initialized y.cls).before a A.U = true := hinit _ _ X.warmed
  have h4 : A.cells + (headSpec ws rm).room.cells ≤ R.cells := by rw [show (headSpec ws rm).room.cells = mc from hrc]; exact hp.1
  have h5 : A.slots + (headSpec ws rm).room.slots ≤ R.slots := by rw [show (headSpec ws rm).room.slots = ms from hrs]; exact hp.2.1
  have hPc : Pc a (A.U.calling g mk a) := hblind _ _ _ _ hp.2.2
  obtain ⟨U, Ls, c0, s0⟩ := A
  dsimp only [Pt.U, Pt.locs, Pt.cells, Pt.slots] at h1 h2 h3 h4 h5 X hn hPc ⊢
  obtain ⟨m9, methY, cY, hn9, hmY, hcY, -, hlY, -⟩ := Cond.codeWith_spec h2
  cases Option.some.inj (hn9.symm.trans hn)
  obtain ⟨kY, hkY, -⟩ := className_of_methodNamed hn
  have hinitY : kY.init = .initialized := Cond.initialized_spec (findClass_of_methodNamed hn) hkY h3
  have h : At U g.method c below := by rw [hg]; exact X.here
  have hlocals9 : W9 + (maxL + 11) + (headSpec ws rm).room.locals ≤ R.locals := hlocals
  have happ : (headSpec ws rm).appliesLoose y e.platform (U.calling g mk a) = true :=
    Spec.appliesLoose_calling (g := g) h hdg hn hkY hinitY
      (X.room_calling (g := g) (R' := (headSpec ws rm).room) hsize hmY hcY hframes (by rw [hlY]; omega) h4 h5) h1
  obtain ⟨mid, hmid⟩ := h.above
  have hfr : (U.setTop g).frames = (.java g :: mid) ++ below := by rw [State.frames_setTop' g h.top, hmid]; rfl
  obtain ⟨o, s₂, hsteps, -, hend, hq⟩ := Steps.callFree hM p X.admits X.cas X.clock (acts := []) hfr happ hPc trivial
  have hq' : vx_Q Qc XC mc ms free a (U.calling g mk a) o s₂ := hq
  rw [State.frames_setTop' g h.top] at hend
  obtain ⟨g₀, hg0⟩ := Option.isSome_iff_exists.mp h.top
  obtain ⟨r, hr⟩ := State.topJava?_eq_some.mp hg0
  have hr' : (({ U with heap := s₂.heap, slotsUsed := s₂.slotsUsed } : State).setVm s₂.vm).frames = .java g₀ :: r := hr
  rcases hq' with ⟨hqc, L, hfe, hL⟩ | ⟨q, rfl, E, ce, L, hx, hce, hcv, hcl, hW₂, hsm, hL⟩
  · obtain ⟨⟨v, rfl⟩, hW₂, e2, q2, q3, q4, q5, q6⟩ := id hfe
    have e3 : s₂ = ({ (U.calling g mk a).setFrames s₂.frames with heap := s₂.heap, slotsUsed := s₂.slotsUsed } : State).setVm s₂.vm := by
      have : s₂ = ({ s₂ with vm := (U.calling g mk a).vm } : State).setVm s₂.vm := rfl
      rw [e2] at this
      exact this
    obtain ⟨c₂, i₂, len₂, hc₂, hd₂, hf₂⟩ := hend
    have hW' : U.WarmedH s₂.vm := hW₂
    have hcc : c₂ = c := by
      have h1 : s₂.code? g.method = U.code? g.method := by
        rw [State.code?_eq, State.code?_eq, hW'.alike.method?]
      exact Option.some.inj (hc₂.symm.trans (h1.trans h.code))
    subst hcc
    have hlen : len₂ = len := by rw [hdg] at hd₂; cases hd₂; rfl
    subst hlen
    have hs₂ : s₂ = (({ U with heap := s₂.heap, slotsUsed := s₂.slotsUsed } : State).setVm s₂.vm).setTop { g with pc := g.pc + len₂, stack := v.toList ++ g.stack } := by
      refine e3.trans ?_
      rw [hf₂, State.calling_eq h.top, State.setFrames_setFrames, State.setTop_of_frames _ hr', hr]
      rfl
    have hsame : U.sameButNew ({ U with heap := s₂.heap, slotsUsed := s₂.slotsUsed } : State) L mc ms := by
      refine ⟨?_, q2, q3, q4, q5, q6⟩
      obtain ⟨t, ht, -⟩ := State.frames_cons hr
      show ({ U with heap := s₂.heap, slotsUsed := s₂.slotsUsed } : State) = { U.setFrames U.frames with heap := s₂.heap, slotsUsed := s₂.slotsUsed }
      rw [State.setFrames_self ht]
    subst hg
    refine Or.inl ⟨v, ⟨(({ U with heap := s₂.heap, slotsUsed := s₂.slotsUsed } : State).setVm s₂.vm), Ls ++ L, c0 + mc, s0 + ms⟩,
      ⟨X.admits, X.cas, X.clock, X.frames, X.room, X.hears, X.method, X.code, (X.here.setHeapUsed s₂.heap s₂.slotsUsed).setVm hW'.alike, X.tail, State.WarmedH.trans X.warmed hW', X.limits, X.bytes, X.same.trans (hsame.setVm s.vm)⟩,
      ⟨g, mk, s₂, L, rfl, rfl, hqc, rfl, hL, rfl, rfl⟩, ?_⟩
    show Steps p.tables e below _ ((({ U with heap := s₂.heap, slotsUsed := s₂.slotsUsed } : State).setVm s₂.vm).setTop { g with pc := g.pc + len₂, stack := v.toList ++ g.stack })
    rw [← hs₂]
    exact hsteps
  · obtain ⟨e2, q2, q3, q4, q5, q6⟩ := id hsm
    have e3 : s₂ = ({ (U.calling g mk a).setFrames s₂.frames with heap := s₂.heap, slotsUsed := s₂.slotsUsed } : State).setVm s₂.vm := by
      have : s₂ = ({ s₂ with vm := (U.calling g mk a).vm } : State).setVm s₂.vm := rfl
      rw [e2] at this
      exact this
    have hf₂ : s₂.frames = .throwing q :: .java g :: U.frames.tail := hend
    have hW' : U.WarmedH s₂.vm := hW₂
    have hs₂ : s₂ = ((({ U with heap := s₂.heap, slotsUsed := s₂.slotsUsed } : State).setVm s₂.vm).setTop g).pushFrame (.throwing q) := by
      refine e3.trans ?_
      rw [hf₂, State.calling_eq h.top, State.setFrames_setFrames, State.pushFrame, State.frames_setTop _ hr', State.setTop_of_frames _ hr', State.setFrames_setFrames, hr]
      rfl
    have hsame : U.sameButNew ({ U with heap := s₂.heap, slotsUsed := s₂.slotsUsed } : State) L mc ms := by
      refine ⟨?_, q2, q3, q4, q5, q6⟩
      obtain ⟨t, ht, -⟩ := State.frames_cons hr
      show ({ U with heap := s₂.heap, slotsUsed := s₂.slotsUsed } : State) = { U.setFrames U.frames with heap := s₂.heap, slotsUsed := s₂.slotsUsed }
      rw [State.setFrames_self ht]
    subst hg
    refine Or.inr ⟨q, ⟨(({ U with heap := s₂.heap, slotsUsed := s₂.slotsUsed } : State).setVm s₂.vm), Ls ++ L, c0 + mc, s0 + ms⟩,
      ⟨X.admits, X.cas, X.clock, X.frames, X.room, X.hears, X.method, X.code, (X.here.setHeapUsed s₂.heap s₂.slotsUsed).setVm hW'.alike, X.tail, State.WarmedH.trans X.warmed hW', X.limits, X.bytes, X.same.trans (hsame.setVm s.vm)⟩,
      ⟨g, mk, s₂, L, E, ce, rfl, rfl, hx, hce, hcv, hcl, rfl, hL, rfl, rfl⟩, ?_⟩
    show Steps p.tables e below _ (((({ U with heap := s₂.heap, slotsUsed := s₂.slotsUsed } : State).setVm s₂.vm).setTop g).pushFrame (.throwing q))
    rw [← hs₂]
    exact hsteps
end
variable {p : Program} {l : Launch} {e : Env} {R : Room} {s : State} {m : MethodId} {args : Array Value} {below : List Frame} {meth : Method} {c : Code} {T : State} {H : Heap} {locs : List Loc} {cells slots : Nat}
theorem vx_callVX (X : Stand p l e R s m args below meth c T locs cells slots) (hexec : p.tables.exec = Jvm.exec) {own C : String} {index : Nat} {y : MethodName} {bytes : ByteArray} {maxL : Nat} {ret : Option FieldType} {hh : List (Nat × Nat × Nat × Nat)}
    (hown : s.vm.findClass own = some m.cls) (hlink : (Cond.methodLink own index y).before args s = true) (hinst : (Cond.instanceMethod y).before args s = true) (hsel : (Cond.selects C y y).before args s = true)
    (hcode : (Cond.codeWith y bytes maxL ret hh).before args s = true) (hy : y.cls ≠ "java/lang/invoke/MethodHandle" ∧ y.cls ≠ "java/lang/invoke/VarHandle")
    {W9 : Nat} {Pre : Pt → Array Value → Prop} {Post : Pt → Array Value → Option Value → Pt → Prop} {PostX : Pt → Array Value → Addr → Pt → Prop} (hK : vx_Back l R p e below s args y 3 W9 Pre Post PostX)
    {b : Addr} {cellB : Cell} (hcell : T.heap[b]? = some cellB) (hobj : cellB.vm.isStatics = false) (hcls : s.vm.findClass C = some cellB.cls)
    {g : JFrame} (hg : g.method = m) (hsize : g.locals.size = c.maxLocals) {argsL rest : List Value} (hlen : ∀ sig, parseMethodDescriptor y.desc = some sig → argsL.length = sig.parameters.length)
    (hstack : g.stack = argsL.reverse ++ .ref b :: rest) (hW : 2 * g.monitorRoom + (rest.map fun v => v.category).sum ≤ W9) (hdg : decode c.code g.pc = .ok (.invokevirtual index, 3))
    (hpre : ∀ vm₁, s.WarmedH vm₁ → Pre ⟨T.setVm vm₁, locs, cells, slots⟩ (Value.ref b :: argsL).toArray) :
    (∃ (v : Option Value) (vm₁ : Vm) (B : Pt), s.WarmedH vm₁ ∧ Stand p l e R s m args below meth c B.U B.locs B.cells B.slots ∧ Post ⟨T.setVm vm₁, locs, cells, slots⟩ (Value.ref b :: argsL).toArray v B ∧
      ∀ target, Steps p.tables e below (B.U.setTop { g with pc := g.pc + 3, stack := v.toList ++ rest }) target → Steps p.tables e below (T.setTop g) target) ∨
    (∃ (q : Addr) (vm₁ : Vm) (B : Pt), s.WarmedH vm₁ ∧ Stand p l e R s m args below meth c B.U B.locs B.cells B.slots ∧ PostX ⟨T.setVm vm₁, locs, cells, slots⟩ (Value.ref b :: argsL).toArray q B ∧
      Steps p.tables e below (T.setTop g) ((B.U.setTop { g with stack := rest }).pushFrame (.throwing q))) := by
  obtain ⟨mk, methM, hnamed, hmethM, hstM, habM⟩ := Cond.instanceMethod_spec hinst
  obtain ⟨m8, methM', cM, hn8, hmethM', -, -, -, -, -, -, hsigM⟩ := Cond.codeWith_spec hcode
  cases Option.some.inj (hn8.symm.trans hnamed)
  cases hmethM.symm.trans hmethM'
  obtain ⟨c2, r2, m2, q1, q2, q3, q4, kP, hkP, hkPi⟩ := Cond.selects_spec hsel
  cases hcls.symm.trans q1
  cases (State.methodFound?_of_named hnamed hy).symm.trans q2
  cases hnamed.symm.trans q3
  have hselP : selectMethod e.platform s.vm cellB.cls mk = .method mk := by rw [Launch.admits_selectMethod X.admits]; exact q4
  obtain ⟨vm₁, X₁, hstep₁⟩ := X.invokevirtual hexec hown hlink hnamed hmethM hstM hkP hkPi hy (a := b) (cell := cellB) hcell
    (fun z h => by rw [h] at hobj; cases hobj) hselP hmethM habM hkP hkPi (g := g) hg (argsL := argsL) (rest := rest) (hlen _ hsigM) hstack hdg
  rcases hK m meth c ⟨T.setVm vm₁, locs, cells, slots⟩ { g with stack := rest } (.invokevirtual index) mk (Value.ref b :: argsL).toArray X₁ hg hsize hdg hW (X₁.named hnamed) (hpre vm₁ X₁.warmed) with ⟨v, B, X', hpost, hsteps⟩ | ⟨q, B, X', hpost, hsteps⟩
  · exact Or.inl ⟨v, vm₁, B, X₁.warmed, X', hpost, fun target h => hstep₁ _ fun acts => by rw [doInvoke_state]; exact hsteps.trans h⟩
  · exact Or.inr ⟨q, vm₁, B, X₁.warmed, X', hpost, hstep₁ _ fun acts => by rw [doInvoke_state]; exact hsteps⟩
theorem vx_callSX (X : Stand p l e R s m args below meth c T locs cells slots) (hexec : p.tables.exec = Jvm.exec) {own : String} {index : Nat} {y : MethodName} {bytes : ByteArray} {maxL : Nat} {ret : Option FieldType} {hh : List (Nat × Nat × Nat × Nat)}
    (hown : s.vm.findClass own = some m.cls) (hlink : (Cond.methodLink own index y).before args s = true) (hstat : (Cond.static y).before args s = true) (hinit : (Cond.initialized y.cls).before args s = true)
    (hcode : (Cond.codeWith y bytes maxL ret hh).before args s = true) (hy : y.cls ≠ "java/lang/invoke/MethodHandle" ∧ y.cls ≠ "java/lang/invoke/VarHandle")
    {W9 : Nat} {Pre : Pt → Array Value → Prop} {Post : Pt → Array Value → Option Value → Pt → Prop} {PostX : Pt → Array Value → Addr → Pt → Prop} (hK : vx_Back l R p e below s args y 3 W9 Pre Post PostX)
    {g : JFrame} (hg : g.method = m) (hsize : g.locals.size = c.maxLocals) {argsL rest : List Value} (hlen : ∀ sig, parseMethodDescriptor y.desc = some sig → argsL.length = sig.parameters.length)
    (hstack : g.stack = argsL.reverse ++ rest) (hW : 2 * g.monitorRoom + (rest.map fun v => v.category).sum ≤ W9) (hdg : decode c.code g.pc = .ok (.invokestatic index, 3))
    (hpre : ∀ vm₁, s.WarmedH vm₁ → Pre ⟨T.setVm vm₁, locs, cells, slots⟩ argsL.toArray) :
    (∃ (v : Option Value) (vm₁ : Vm) (B : Pt), s.WarmedH vm₁ ∧ Stand p l e R s m args below meth c B.U B.locs B.cells B.slots ∧ Post ⟨T.setVm vm₁, locs, cells, slots⟩ argsL.toArray v B ∧
      ∀ target, Steps p.tables e below (B.U.setTop { g with pc := g.pc + 3, stack := v.toList ++ rest }) target → Steps p.tables e below (T.setTop g) target) ∨
    (∃ (q : Addr) (vm₁ : Vm) (B : Pt), s.WarmedH vm₁ ∧ Stand p l e R s m args below meth c B.U B.locs B.cells B.slots ∧ PostX ⟨T.setVm vm₁, locs, cells, slots⟩ argsL.toArray q B ∧
      Steps p.tables e below (T.setTop g) ((B.U.setTop { g with stack := rest }).pushFrame (.throwing q))) := by
  obtain ⟨mk, methM, cM, hnamed, hmethM, -, -, -, -, -, -, hsigM⟩ := Cond.codeWith_spec hcode
  have hstatic : methM.isStatic = true := Cond.static_spec hnamed hmethM hstat
  obtain ⟨kP, hkP, -⟩ := className_of_methodNamed hnamed
  have hinitP : kP.init = .initialized := Cond.initialized_spec (findClass_of_methodNamed hnamed) hkP hinit
  obtain ⟨vm₁, X₁, hstep₁⟩ := X.invokestatic hexec hown hlink hnamed hmethM hstatic hkP hinitP hy (g := g) hg (argsL := argsL) (rest := rest) (hlen _ hsigM) hstack hdg
  rcases hK m meth c ⟨T.setVm vm₁, locs, cells, slots⟩ { g with stack := rest } (.invokestatic index) mk argsL.toArray X₁ hg hsize hdg hW (X₁.named hnamed) (hpre vm₁ X₁.warmed) with ⟨v, B, X', hpost, hsteps⟩ | ⟨q, B, X', hpost, hsteps⟩
  · exact Or.inl ⟨v, vm₁, B, X₁.warmed, X', hpost, fun target h => hstep₁ _ fun acts => by rw [doInvoke_state]; exact hsteps.trans h⟩
  · exact Or.inr ⟨q, vm₁, B, X₁.warmed, X', hpost, hstep₁ _ fun acts => by rw [doInvoke_state]; exact hsteps⟩
theorem vx_callVW (X : Stand p l e R s m args below meth c T locs cells slots) (hexec : p.tables.exec = Jvm.exec) {own C : String} {index : Nat} {y : MethodName} {bytes : ByteArray} {maxL : Nat} {ret : Option FieldType} {hh : List (Nat × Nat × Nat × Nat)}
    (hown : s.vm.findClass own = some m.cls) (hlink : (Cond.methodLink own index y).before args s = true) (hinst : (Cond.instanceMethod y).before args s = true) (hsel : (Cond.selects C y y).before args s = true)
    (hcode : (Cond.codeWith y bytes maxL ret hh).before args s = true) (hy : y.cls ≠ "java/lang/invoke/MethodHandle" ∧ y.cls ≠ "java/lang/invoke/VarHandle")
    {W9 : Nat} {Pre : Pt → Array Value → Prop} {Post : Pt → Array Value → Option Value → Pt → Prop} (hK : Back l R p e below s args y 3 W9 Pre Post)
    {b : Addr} {cellB : Cell} (hcell : T.heap[b]? = some cellB) (hobj : cellB.vm.isStatics = false) (hcls : s.vm.findClass C = some cellB.cls)
    {g : JFrame} (hg : g.method = m) (hsize : g.locals.size = c.maxLocals) {argsL rest : List Value} (hlen : ∀ sig, parseMethodDescriptor y.desc = some sig → argsL.length = sig.parameters.length)
    (hstack : g.stack = argsL.reverse ++ .ref b :: rest) (hW : 2 * g.monitorRoom + (rest.map fun v => v.category).sum ≤ W9) (hdg : decode c.code g.pc = .ok (.invokevirtual index, 3))
    (hpre : ∀ vm₁, s.WarmedH vm₁ → Pre ⟨T.setVm vm₁, locs, cells, slots⟩ (Value.ref b :: argsL).toArray) :
    ∃ (v : Option Value) (vm₁ : Vm) (B : Pt), s.WarmedH vm₁ ∧ Stand p l e R s m args below meth c B.U B.locs B.cells B.slots ∧ Post ⟨T.setVm vm₁, locs, cells, slots⟩ (Value.ref b :: argsL).toArray v B ∧
      ∀ target, Steps p.tables e below (B.U.setTop { g with pc := g.pc + 3, stack := v.toList ++ rest }) target → Steps p.tables e below (T.setTop g) target := by
  obtain ⟨mk, methM, hnamed, hmethM, hstM, habM⟩ := Cond.instanceMethod_spec hinst
  obtain ⟨m8, methM', cM, hn8, hmethM', -, -, -, -, -, -, hsigM⟩ := Cond.codeWith_spec hcode
  cases Option.some.inj (hn8.symm.trans hnamed)
  cases hmethM.symm.trans hmethM'
  obtain ⟨c2, r2, m2, q1, q2, q3, q4, kP, hkP, hkPi⟩ := Cond.selects_spec hsel
  cases hcls.symm.trans q1
  cases (State.methodFound?_of_named hnamed hy).symm.trans q2
  cases hnamed.symm.trans q3
  have hselP : selectMethod e.platform s.vm cellB.cls mk = .method mk := by rw [Launch.admits_selectMethod X.admits]; exact q4
  obtain ⟨vm₁, X₁, hstep₁⟩ := X.invokevirtual hexec hown hlink hnamed hmethM hstM hkP hkPi hy (a := b) (cell := cellB) hcell
    (fun z h => by rw [h] at hobj; cases hobj) hselP hmethM habM hkP hkPi (g := g) hg (argsL := argsL) (rest := rest) (hlen _ hsigM) hstack hdg
  obtain ⟨v, B, X', hpost, hsteps⟩ := hK m meth c ⟨T.setVm vm₁, locs, cells, slots⟩ { g with stack := rest } (.invokevirtual index) mk (Value.ref b :: argsL).toArray X₁ hg hsize hdg hW (X₁.named hnamed) (hpre vm₁ X₁.warmed)
  exact ⟨v, vm₁, B, X₁.warmed, X', hpost, fun target h => hstep₁ _ fun acts => by rw [doInvoke_state]; exact hsteps.trans h⟩
abbrev vx_CVW (R : Room) (s : State) (args : Array Value) (own C : String) (index : Nat) (y : MethodName) (bytes : ByteArray) (maxL : Nat) (ret : Option FieldType) (hh : List (Nat × Nat × Nat × Nat)) (ws : List Cond) (rm : Room) (mc ms n : Nat) : Prop :=
  (rm.cells = mc ∧ rm.slots = ms ∧ rm.frames + 1 ≤ R.frames ∧ 8 + (maxL + 11) + rm.locals ≤ R.locals ∧ (∀ w ∈ ws, ∀ (a' : Array Value) (U : State), s.WarmedH U.vm → w.before a' U = true) ∧ Cond.codeWith y bytes maxL ret hh ∈ ws) ∧
  (Cond.codeWith y bytes maxL ret hh).before args s = true ∧ (Cond.initialized y.cls).before args s = true ∧ (y.cls ≠ "java/lang/invoke/MethodHandle" ∧ y.cls ≠ "java/lang/invoke/VarHandle") ∧
  (∀ sig, parseMethodDescriptor y.desc = some sig → n = sig.parameters.length) ∧ (Cond.methodLink own index y).before args s = true ∧ (Cond.instanceMethod y).before args s = true ∧ (Cond.selects C y y).before args s = true
theorem vx_cwVW {own C : String} {index maxL mc ms : Nat} {y : MethodName} {bytes : ByteArray} {ret : Option FieldType} {hh : List (Nat × Nat × Nat × Nat)} {Ts ws ws' : List Cond} {rm : Room} (n : Nat) (ht : ∀ w ∈ Ts, w.before args s = true) (hT : GoodIn Ts (wsV own index C y ws)) (hw : ws = Cond.codeWith y bytes maxL ret hh :: ws') (hrc : rm.cells = mc) (hrs : rm.slots = ms)
    (hd : y.cls = C ∧ y.cls ≠ "java/lang/invoke/MethodHandle" ∧ y.cls ≠ "java/lang/invoke/VarHandle" ∧ (parseMethodDescriptor y.desc).map (fun d => d.parameters.length) = some n) (hR : rm.frames + 1 ≤ R.frames ∧ 8 + (maxL + 11) + rm.locals ≤ R.locals) :
    vx_CVW R s args own C index y bytes maxL ret hh ws rm mc ms n := by
  obtain ⟨hC, hd⟩ := hd
  subst hC
  have ok : ∀ w ∈ wsV own index y.cls y ws, w.before args s = true := fun w h => ht w (hT w h).1
  have hG : GoodIn Ts ws := fun w h => hT w (by unfold wsV; exact List.mem_append_right _ h)
  have hc : Cond.codeWith y bytes maxL ret hh ∈ ws := by rw [hw]; exact List.mem_cons_self
  refine ⟨⟨hrc, hrs, hR.1, hR.2, pay_in ht hG, hc⟩, ht _ (hG _ hc).1, ok _ (by simp [wsV]), ⟨hd.1, hd.2.1⟩, fun sig h => ?_, ok _ (by simp [wsV]), ok _ (by simp [wsV]), ok _ (by simp [wsV])⟩
  have h2 := hd.2.2
  rw [h] at h2
  exact (Option.some.inj h2).symm
theorem vx_runVW {y : MethodName} {bytes cc : ByteArray} {maxL nL mc ms n index : Nat} {ret : Option FieldType} {hh : List (Nat × Nat × Nat × Nat)} {ws : List Cond} {rm : Room} {Pc : Array Value → State → Prop} {Qc : Array Value → State → Outcome → State → Prop} {free : Addr → Prop} {Ts : List Cond} {own C : String} {b : Addr} {As rest : List Value} {g : JFrame}
    (S : CallFix p m c cc nL s args Ts own) (hM : Met l y ws rm Pc Qc mc ms free) (cw : vx_CVW R s args own C index y bytes maxL ret hh ws rm mc ms n) (hp : PreV s H C b Pc As)
    (hg : g.method = m) (hn : As.length = n) (hsize : g.locals.size = nL) (hstack : g.stack = As.reverse ++ .ref b :: rest) (hW : 2 * g.monitorRoom + (rest.map fun v => v.category).sum ≤ 8) (hdg : decode cc g.pc = .ok (.invokevirtual index, 3)) (hf : cells + mc ≤ R.cells ∧ slots + ms ≤ R.slots) :
    va_Run p l e R s m args below meth c H locs cells slots mc ms g rest (Qc (Value.ref b :: As).toArray) free := by
  obtain ⟨⟨hrc, hrs, hfr, hlo, hws, hcw⟩, hcode, hini, hy, hlen, hl, hin, hse⟩ := cw
  have hK : Back l R p e below s args y 3 8 (PreOf R mc ms Pc) (PostOf Qc mc ms free) := va_backW (hh := hh) (bytes := bytes) (maxL := maxL) (ret := ret) hM hp.1 hrc hrs hfr hlo hws hcw (fun a' U hW => word_at hW (Or.inl (by first | rfl | simp [Cond.onTables, Cond.keeps, Cond.steady])) hini)
  obtain ⟨hx, hb, hml, ho, -⟩ := S
  obtain ⟨-, ⟨cellB, hcB, hoB, hclB⟩, hPc⟩ := hp
  intro T hT X
  obtain ⟨v, vm₁, ⟨U', l2, c2, s2⟩, hW₁, X', ⟨g', mk, t, L, e1, e2, hq, h1, hL, h2, h3⟩, st⟩ := vx_callVW X hx (C := C) (hh := hh) (bytes := bytes) (maxL := maxL) (ret := ret) ho hl hin hse hcode hy hK (by rw [hT]; exact hcB) hoB hclB hg (hsize.trans hml.symm) (argsL := As) (rest := rest) (fun sig h => hn.trans (hlen sig h)) hstack hW (by rw [hb]; exact hdg)
    (fun vm₁ hW₁ => ⟨hf.1, hf.2, hPc (T.setVm vm₁) hT hW₁⟩)
  dsimp only [Pt.U, Pt.locs, Pt.cells, Pt.slots] at X' e1 e2 h1 h2 h3 st
  subst h1; subst h2; subst h3
  exact ⟨v, (T.setVm vm₁).calling g' mk (Value.ref b :: As).toArray, t, U', L, hT, X', hL, e1, e2, hq, st⟩
section
variable {y : MethodName} {bytes cc : ByteArray} {maxL nL mc ms n index : Nat} {ret : Option FieldType} {ws : List Cond} {rm : Room} {Pc : Array Value → State → Prop} {Qc : Array Value → State → Outcome → State → Prop} {XC : String → State → State → Prop} {free : Addr → Prop} {Ts : List Cond} {own C : String} {b : Addr} {As rest : List Value} {g : JFrame}
theorem vx_runVX {hh : List (Nat × Nat × Nat × Nat)} (S : CallFix p m c cc nL s args Ts own) (hM : vx_Met l y ws rm Pc Qc XC mc ms free) (cw : vx_CVW R s args own C index y bytes maxL ret hh ws rm mc ms n) (hp : PreV s H C b Pc As)
    (hg : g.method = m) (hn : As.length = n) (hsize : g.locals.size = nL) (hstack : g.stack = As.reverse ++ .ref b :: rest) (hW : 2 * g.monitorRoom + (rest.map fun v => v.category).sum ≤ 8) (hdg : decode cc g.pc = .ok (.invokevirtual index, 3)) (hf : cells + mc ≤ R.cells ∧ slots + ms ≤ R.slots) :
    vx_Run p l e R s m args below meth c H locs cells slots mc ms g rest (Qc (Value.ref b :: As).toArray) XC free := by
  obtain ⟨⟨hrc, hrs, hfr, hlo, hws, hcw⟩, hcode, hini, hy, hlen, hl, hin, hse⟩ := cw
  have hK : vx_Back l R p e below s args y 3 8 (PreOf R mc ms Pc) (PostOf Qc mc ms free) (vx_Post XC mc ms free) := vx_backW (hh := hh) (bytes := bytes) (maxL := maxL) (ret := ret) hM hp.1 hrc hrs hfr hlo hws hcw (fun a' U hW => word_at hW (Or.inl (by first | rfl | simp [Cond.onTables, Cond.keeps, Cond.steady])) hini)
  obtain ⟨hx, hb, hml, ho, -⟩ := S
  obtain ⟨-, ⟨cellB, hcB, hoB, hclB⟩, hPc⟩ := hp
  intro T hT X
  rcases vx_callVX X hx (C := C) (hh := hh) (bytes := bytes) (maxL := maxL) (ret := ret) ho hl hin hse hcode hy hK (by rw [hT]; exact hcB) hoB hclB hg (hsize.trans hml.symm) (argsL := As) (rest := rest) (fun sig h => hn.trans (hlen sig h)) hstack hW (by rw [hb]; exact hdg)
    (fun vm₁ hW₁ => ⟨hf.1, hf.2, hPc (T.setVm vm₁) hT hW₁⟩) with ⟨v, vm₁, ⟨U', l2, c2, s2⟩, hW₁, X', ⟨g', mk, t, L, e1, e2, hq, h1, hL, h2, h3⟩, st⟩ | ⟨q, vm₁, ⟨U', l2, c2, s2⟩, hW₁, X', ⟨g', mk, t, L, E, ce, e1, e2, hq, hce, hcv, hcl, h1, hL, h2, h3⟩, st⟩
  · dsimp only [Pt.U, Pt.locs, Pt.cells, Pt.slots] at X' e1 e2 h1 h2 h3 st
    subst h1; subst h2; subst h3
    exact Or.inl ⟨v, (T.setVm vm₁).calling g' mk (Value.ref b :: As).toArray, t, U', L, hT, X', hL, e1, e2, hq, st⟩
  · dsimp only [Pt.U, Pt.locs, Pt.cells, Pt.slots] at X' e1 e2 h1 h2 h3 st hcl
    subst h1; subst h2; subst h3
    exact Or.inr ⟨q, (T.setVm vm₁).calling g' mk (Value.ref b :: As).toArray, t, U', L, E, ce, hT, X', hL, e1, e2, hq, hce, hcv, vx_cls hW₁ hcl, st⟩
theorem vx_runSX {hh : List (Nat × Nat × Nat × Nat)} (S : CallFix p m c cc nL s args Ts own) (hM : vx_Met l y ws rm Pc Qc XC mc ms free) (cw : vx_CSW R s args own index y bytes maxL ret hh ws rm mc ms n) (hp : PreS s H Pc As)
    (hg : g.method = m) (hn : As.length = n) (hsize : g.locals.size = nL) (hstack : g.stack = As.reverse ++ rest) (hW : 2 * g.monitorRoom + (rest.map fun v => v.category).sum ≤ 8) (hdg : decode cc g.pc = .ok (.invokestatic index, 3)) (hf : cells + mc ≤ R.cells ∧ slots + ms ≤ R.slots) :
    vx_Run p l e R s m args below meth c H locs cells slots mc ms g rest (Qc As.toArray) XC free := by
  obtain ⟨⟨hrc, hrs, hfr, hlo, hws, hcw⟩, hcode, hini, hy, hlen, hl, hstt⟩ := cw
  have hK : vx_Back l R p e below s args y 3 8 (PreOf R mc ms Pc) (PostOf Qc mc ms free) (vx_Post XC mc ms free) := vx_backW (hh := hh) (bytes := bytes) (maxL := maxL) (ret := ret) hM hp.1 hrc hrs hfr hlo hws hcw (fun a' U hW => word_at hW (Or.inl (by first | rfl | simp [Cond.onTables, Cond.keeps, Cond.steady])) hini)
  obtain ⟨hx, hb, hml, ho, -⟩ := S
  intro T hT X
  rcases vx_callSX X hx (hh := hh) (bytes := bytes) (maxL := maxL) (ret := ret) ho hl hstt hini hcode hy hK hg (hsize.trans hml.symm) (argsL := As) (rest := rest) (fun sig h => hn.trans (hlen sig h)) hstack hW (by rw [hb]; exact hdg)
    (fun vm₁ hW₁ => ⟨hf.1, hf.2, hp.2 (T.setVm vm₁) hT hW₁⟩) with ⟨v, vm₁, ⟨U', l2, c2, s2⟩, hW₁, X', ⟨g', mk, t, L, e1, e2, hq, h1, hL, h2, h3⟩, st⟩ | ⟨q, vm₁, ⟨U', l2, c2, s2⟩, hW₁, X', ⟨g', mk, t, L, E, ce, e1, e2, hq, hce, hcv, hcl, h1, hL, h2, h3⟩, st⟩
  · dsimp only [Pt.U, Pt.locs, Pt.cells, Pt.slots] at X' e1 e2 h1 h2 h3 st
    subst h1; subst h2; subst h3
    exact Or.inl ⟨v, (T.setVm vm₁).calling g' mk As.toArray, t, U', L, hT, X', hL, e1, e2, hq, st⟩
  · dsimp only [Pt.U, Pt.locs, Pt.cells, Pt.slots] at X' e1 e2 h1 h2 h3 st hcl
    subst h1; subst h2; subst h3
    exact Or.inr ⟨q, (T.setVm vm₁).calling g' mk As.toArray, t, U', L, E, ce, hT, X', hL, e1, e2, hq, hce, hcv, vx_cls hW₁ hcl, st⟩
end
end VXH
theorem vx_ofWH {l : Launch} {y : MethodName} {ws ws' : List Cond} {rm : Room} {Pc : Array Value → State → Prop} {Qc : Array Value → State → Outcome → State → Prop} {XC : String → State → State → Prop} {mc ms : Nat} {free : Addr → Prop} {cc : ByteArray} {maxL : Nat} {ret : Option FieldType} {hh : List (Nat × Nat × Nat × Nat)}
    (hy : plainName y.cls = true) (hw : ws = Cond.codeWith y cc maxL ret hh :: ws')
    (body : ∀ p e s m args below meth c s₁, BodyLoose p l y (headSpec ws rm) cc maxL ret e s m args below meth c s₁ → c.maxLocals = maxL → Pc args s →
      W p l e (headSpec ws rm).room s m args below meth c s.heap [] 0 0 (vx_MQ below Qc XC args s mc ms free) (entryFrame m args maxL)) : vx_Met l y ws rm Pc Qc XC mc ms free := by
  refine MetFree.of_bodyS (code := cc) (maxLocals := maxL) (ret := ret) hy ?_ ?_
  · intro args s m h hn
    obtain ⟨m9, meth, c, hn9, h1, h2, h3, h4, -, h5, h6, -⟩ := Cond.codeWith_spec (atoms_spec (ws := ws) h _ (by rw [hw]; exact List.mem_cons_self))
    cases hn.symm.trans hn9
    exact ⟨meth, c, h1, h2, h3, h4, h5, h6⟩
  · intro p e s m args below meth c s₁ B hml hP _
    have hh0 : s₁.heap = s.heap := by rw [B.state]; rfl
    obtain ⟨t, a1, o, b1, b2, b3⟩ := body p e s m args below meth c s₁ B hml hP s₁ hh0 (Stand.of_body B)
    exact ⟨t, o, a1, b1, b2, b3⟩
/-! ===== END ===== -/
end
section
/-! ===== BEGIN printed: names, fields, word lists, decode rows ===== -/
def RX0 : String := "ArchipelagoFerries$Booking"
def TX0 : u_T := fun k => match k with
  | 0 => ("ArchipelagoFerries$Booking", "sailing", "I", false)
  | 1 => ("ArchipelagoFerries$Booking", "kind", "I", false)
  | 2 => ("ArchipelagoFerries$Booking", "length", "I", false)
  | 3 => ("ArchipelagoFerries$Booking", "weight", "I", false)
  | 4 => ("ArchipelagoFerries$Booking", "lane", "I", false)
  | 5 => ("ArchipelagoFerries$Booking", "turn", "I", false)
  | 6 => ("ArchipelagoFerries$Booking", "timesOver", "I", false)
  | 7 => ("ArchipelagoFerries$Booking", "paidByPerson", "I", false)
  | 8 => ("ArchipelagoFerries$Booking", "paidByState", "I", false)
  | 9 => ("ArchipelagoFerries$Booking", "isDangerous", "Z", false)
  | 10 => ("ArchipelagoFerries$Booking", "isIslander", "Z", false)
  | _ => ("ArchipelagoFerries$Booking", "isOnBoard", "Z", false)
def tyX0 : Nat → FieldType := fun k => match k with
  | 0 => .int
  | 1 => .int
  | 2 => .int
  | 3 => .int
  | 4 => .int
  | 5 => .int
  | 6 => .int
  | 7 => .int
  | 8 => .int
  | 9 => .boolean
  | 10 => .boolean
  | _ => .boolean
abbrev wsX00 : List Cond := u_ws RX0 TX0 12
theorem nmX0 : ∀ a, a < 12 → ∀ b, b < 12 → a ≠ b → (TX0 a).2.1 ≠ (TX0 b).2.1 := by decide +kernel
theorem tyX0_ok : ∀ k, k < 12 → parseFieldDescriptor (TX0 k).2.2.1 = some (tyX0 k) := by decide +kernel
abbrev cX0_init : ByteArray := prog_2_method_1_code
def yX0_init : MethodName := ⟨RX0, "<init>", "()V"⟩
def RX1 : String := "ArchipelagoFerries$Crew"
def TX1 : u_T := fun k => match k with
  | 0 => ("ArchipelagoFerries$Crew", "ship", "I", false)
  | _ => ("ArchipelagoFerries$Crew", "days", "LArchipelagoFerries$Span;", true)
def tyX1 : Nat → FieldType := fun k => match k with
  | 0 => .int
  | _ => .object "ArchipelagoFerries$Span"
abbrev wsX10 : List Cond := u_ws RX1 TX1 2
theorem nmX1 : ∀ a, a < 2 → ∀ b, b < 2 → a ≠ b → (TX1 a).2.1 ≠ (TX1 b).2.1 := by decide +kernel
theorem tyX1_ok : ∀ k, k < 2 → parseFieldDescriptor (TX1 k).2.2.1 = some (tyX1 k) := by decide +kernel
abbrev cX1_init : ByteArray := prog_3_method_1_code
def yX1_init : MethodName := ⟨RX1, "<init>", "()V"⟩
def RX2 : String := "ArchipelagoFerries$Deck"
def TX2 : u_T := fun k => match k with
  | 0 => ("ArchipelagoFerries$Deck", "lengths", "[I", true)
  | 1 => ("ArchipelagoFerries$Deck", "haveDangerous", "[Z", true)
  | 2 => ("ArchipelagoFerries$Deck", "laneCount", "I", false)
  | 3 => ("ArchipelagoFerries$Deck", "laneLength", "I", false)
  | 4 => ("ArchipelagoFerries$Deck", "mostWeight", "I", false)
  | 5 => ("ArchipelagoFerries$Deck", "weight", "I", false)
  | 6 => ("ArchipelagoFerries$Deck", "dangerousCount", "I", false)
  | 7 => ("ArchipelagoFerries$Deck", "turns", "I", false)
  | _ => ("ArchipelagoFerries$Deck", "lean", "I", false)
def tyX2 : Nat → FieldType := fun k => match k with
  | 0 => .array .int
  | 1 => .array .boolean
  | 2 => .int
  | 3 => .int
  | 4 => .int
  | 5 => .int
  | 6 => .int
  | 7 => .int
  | _ => .int
abbrev wsX20 : List Cond := u_ws RX2 TX2 9
theorem nmX2 : ∀ a, a < 9 → ∀ b, b < 9 → a ≠ b → (TX2 a).2.1 ≠ (TX2 b).2.1 := by decide +kernel
theorem tyX2_ok : ∀ k, k < 9 → parseFieldDescriptor (TX2 k).2.2.1 = some (tyX2 k) := by decide +kernel
abbrev cX2_init : ByteArray := prog_4_method_1_code
def yX2_init : MethodName := ⟨RX2, "<init>", "()V"⟩
abbrev cX2_clear : ByteArray := prog_4_method_2_code
def yX2_clear : MethodName := ⟨RX2, "clear", "(LArchipelagoFerries$Ship;)V"⟩
abbrev cX2_take : ByteArray := prog_4_method_3_code
def yX2_take : MethodName := ⟨RX2, "take", "(LArchipelagoFerries$Booking;)V"⟩
abbrev cX2_bestLane : ByteArray := prog_4_method_4_code
def yX2_bestLane : MethodName := ⟨RX2, "bestLane", "(LArchipelagoFerries$Booking;)I"⟩
abbrev cX2_isNearDangerous : ByteArray := prog_4_method_5_code
def yX2_isNearDangerous : MethodName := ⟨RX2, "isNearDangerous", "(I)Z"⟩
abbrev cX2_put : ByteArray := prog_4_method_6_code
def yX2_put : MethodName := ⟨RX2, "put", "(LArchipelagoFerries$Booking;I)V"⟩
abbrev cX2_putOff : ByteArray := prog_4_method_7_code
def yX2_putOff : MethodName := ⟨RX2, "putOff", "(LArchipelagoFerries$Booking;)V"⟩
abbrev cX2_isOnHeavierSide : ByteArray := prog_4_method_8_code
def yX2_isOnHeavierSide : MethodName := ⟨RX2, "isOnHeavierSide", "(LArchipelagoFerries$Booking;)Z"⟩
abbrev cX2_leanOf : ByteArray := prog_4_method_9_code
def yX2_leanOf : MethodName := ⟨RX2, "leanOf", "(II)I"⟩
def RX3 : String := "ArchipelagoFerries$Sailing"
def TX3 : u_T := fun k => match k with
  | 0 => ("ArchipelagoFerries$Sailing", "ship", "I", false)
  | 1 => ("ArchipelagoFerries$Sailing", "from", "I", false)
  | 2 => ("ArchipelagoFerries$Sailing", "to", "I", false)
  | 3 => ("ArchipelagoFerries$Sailing", "hour", "I", false)
  | 4 => ("ArchipelagoFerries$Sailing", "end", "I", false)
  | 5 => ("ArchipelagoFerries$Sailing", "distance", "I", false)
  | 6 => ("ArchipelagoFerries$Sailing", "status", "I", false)
  | 7 => ("ArchipelagoFerries$Sailing", "reason", "I", false)
  | 8 => ("ArchipelagoFerries$Sailing", "crew", "I", false)
  | 9 => ("ArchipelagoFerries$Sailing", "lean", "I", false)
  | _ => ("ArchipelagoFerries$Sailing", "isReplaced", "Z", false)
def tyX3 : Nat → FieldType := fun k => match k with
  | 0 => .int
  | 1 => .int
  | 2 => .int
  | 3 => .int
  | 4 => .int
  | 5 => .int
  | 6 => .int
  | 7 => .int
  | 8 => .int
  | 9 => .int
  | _ => .boolean
abbrev wsX30 : List Cond := u_ws RX3 TX3 11
theorem nmX3 : ∀ a, a < 11 → ∀ b, b < 11 → a ≠ b → (TX3 a).2.1 ≠ (TX3 b).2.1 := by decide +kernel
theorem tyX3_ok : ∀ k, k < 11 → parseFieldDescriptor (TX3 k).2.2.1 = some (tyX3 k) := by decide +kernel
abbrev cX3_init : ByteArray := prog_5_method_1_code
def yX3_init : MethodName := ⟨RX3, "<init>", "()V"⟩
def RX4 : String := "ArchipelagoFerries$Ship"
def TX4 : u_T := fun k => match k with
  | 0 => ("ArchipelagoFerries$Ship", "home", "I", false)
  | 1 => ("ArchipelagoFerries$Ship", "laneCount", "I", false)
  | 2 => ("ArchipelagoFerries$Ship", "laneLength", "I", false)
  | 3 => ("ArchipelagoFerries$Ship", "mostWeight", "I", false)
  | 4 => ("ArchipelagoFerries$Ship", "draught", "I", false)
  | 5 => ("ArchipelagoFerries$Ship", "speed", "I", false)
  | 6 => ("ArchipelagoFerries$Ship", "tank", "I", false)
  | _ => ("ArchipelagoFerries$Ship", "out", "LArchipelagoFerries$Span;", true)
def tyX4 : Nat → FieldType := fun k => match k with
  | 0 => .int
  | 1 => .int
  | 2 => .int
  | 3 => .int
  | 4 => .int
  | 5 => .int
  | 6 => .int
  | _ => .object "ArchipelagoFerries$Span"
abbrev wsX40 : List Cond := u_ws RX4 TX4 8
theorem nmX4 : ∀ a, a < 8 → ∀ b, b < 8 → a ≠ b → (TX4 a).2.1 ≠ (TX4 b).2.1 := by decide +kernel
theorem tyX4_ok : ∀ k, k < 8 → parseFieldDescriptor (TX4 k).2.2.1 = some (tyX4 k) := by decide +kernel
abbrev cX4_init : ByteArray := prog_6_method_1_code
def yX4_init : MethodName := ⟨RX4, "<init>", "()V"⟩
abbrev cX4_hoursFor : ByteArray := prog_6_method_2_code
def yX4_hoursFor : MethodName := ⟨RX4, "hoursFor", "(I)I"⟩
abbrev cX4_burns : ByteArray := prog_6_method_3_code
def yX4_burns : MethodName := ⟨RX4, "burns", "(I)I"⟩
def RX5 : String := "ArchipelagoFerries$Span"
def TX5 : u_T := fun k => match k with
  | 0 => ("ArchipelagoFerries$Span", "first", "I", false)
  | _ => ("ArchipelagoFerries$Span", "last", "I", false)
def tyX5 : Nat → FieldType := fun k => match k with
  | 0 => .int
  | _ => .int
abbrev wsX50 : List Cond := u_ws RX5 TX5 2
theorem nmX5 : ∀ a, a < 2 → ∀ b, b < 2 → a ≠ b → (TX5 a).2.1 ≠ (TX5 b).2.1 := by decide +kernel
theorem tyX5_ok : ∀ k, k < 2 → parseFieldDescriptor (TX5 k).2.2.1 = some (tyX5 k) := by decide +kernel
abbrev cX5_init : ByteArray := prog_7_method_1_code
def yX5_init : MethodName := ⟨RX5, "<init>", "()V"⟩
abbrev cX5_tell : ByteArray := prog_7_method_2_code
def yX5_tell : MethodName := ⟨RX5, "tell", "(II)V"⟩
abbrev cX5_has : ByteArray := prog_7_method_3_code
def yX5_has : MethodName := ⟨RX5, "has", "(I)Z"⟩
def RX6 : String := "ArchipelagoFerries"
def TX6 : u_T := fun k => match k with
  | 0 => ("ArchipelagoFerries", "ships", "[LArchipelagoFerries$Ship;", true)
  | 1 => ("ArchipelagoFerries", "crews", "[LArchipelagoFerries$Crew;", true)
  | 2 => ("ArchipelagoFerries", "sailings", "[LArchipelagoFerries$Sailing;", true)
  | 3 => ("ArchipelagoFerries", "bookings", "[LArchipelagoFerries$Booking;", true)
  | 4 => ("ArchipelagoFerries", "residences", "[I", true)
  | 5 => ("ArchipelagoFerries", "busEach", "[I", true)
  | 6 => ("ArchipelagoFerries", "busFirst", "[I", true)
  | 7 => ("ArchipelagoFerries", "accounts", "[J", true)
  | 8 => ("ArchipelagoFerries", "storm", "LArchipelagoFerries$Span;", true)
  | 9 => ("ArchipelagoFerries", "strike", "LArchipelagoFerries$Span;", true)
  | 10 => ("ArchipelagoFerries", "deck", "LArchipelagoFerries$Deck;", true)
  | 11 => ("ArchipelagoFerries", "shipCount", "I", false)
  | 12 => ("ArchipelagoFerries", "crewCount", "I", false)
  | 13 => ("ArchipelagoFerries", "sailingCount", "I", false)
  | 14 => ("ArchipelagoFerries", "bookingCount", "I", false)
  | _ => ("ArchipelagoFerries", "hourNow", "I", false)
def tyX6 : Nat → FieldType := fun k => match k with
  | 0 => .array (.object "ArchipelagoFerries$Ship")
  | 1 => .array (.object "ArchipelagoFerries$Crew")
  | 2 => .array (.object "ArchipelagoFerries$Sailing")
  | 3 => .array (.object "ArchipelagoFerries$Booking")
  | 4 => .array .int
  | 5 => .array .int
  | 6 => .array .int
  | 7 => .array .long
  | 8 => .object "ArchipelagoFerries$Span"
  | 9 => .object "ArchipelagoFerries$Span"
  | 10 => .object "ArchipelagoFerries$Deck"
  | 11 => .int
  | 12 => .int
  | 13 => .int
  | 14 => .int
  | _ => .int
abbrev wsX60 : List Cond := u_ws RX6 TX6 16
theorem nmX6 : ∀ a, a < 16 → ∀ b, b < 16 → a ≠ b → (TX6 a).2.1 ≠ (TX6 b).2.1 := by decide +kernel
theorem tyX6_ok : ∀ k, k < 16 → parseFieldDescriptor (TX6 k).2.2.1 = some (tyX6 k) := by decide +kernel
abbrev cX6_init : ByteArray := prog_1_method_1_code
def yX6_init : MethodName := ⟨RX6, "<init>", "()V"⟩
abbrev cX6_ship : ByteArray := prog_1_method_2_code
def yX6_ship : MethodName := ⟨RX6, "ship", "(IIIIII)I"⟩
abbrev cX6_fill : ByteArray := prog_1_method_3_code
def yX6_fill : MethodName := ⟨RX6, "fill", "(II)I"⟩
abbrev cX6_crew : ByteArray := prog_1_method_4_code
def yX6_crew : MethodName := ⟨RX6, "crew", "(III)I"⟩
abbrev cX6_hours : ByteArray := prog_1_method_5_code
def yX6_hours : MethodName := ⟨RX6, "hours", "(II)I"⟩
abbrev cX6_depth : ByteArray := prog_1_method_6_code
def yX6_depth : MethodName := ⟨RX6, "depth", "(II)I"⟩
abbrev cX6_hinder : ByteArray := prog_1_method_7_code
def yX6_hinder : MethodName := ⟨RX6, "hinder", "(IIII)V"⟩
abbrev cX6_bus : ByteArray := prog_1_method_8_code
def yX6_bus : MethodName := ⟨RX6, "bus", "(III)V"⟩
abbrev cX6_reside : ByteArray := prog_1_method_9_code
def yX6_reside : MethodName := ⟨RX6, "reside", "(II)I"⟩
abbrev cX6_plan : ByteArray := prog_1_method_10_code
def yX6_plan : MethodName := ⟨RX6, "plan", "(IIII)I"⟩
abbrev cX6_cancel : ByteArray := prog_1_method_11_code
def yX6_cancel : MethodName := ⟨RX6, "cancel", "(I)I"⟩
abbrev cX6_replace : ByteArray := prog_1_method_12_code
def yX6_replace : MethodName := ⟨RX6, "replace", "(II)I"⟩
abbrev cX6_pass : ByteArray := prog_1_method_13_code
def yX6_pass : MethodName := ⟨RX6, "pass", "(I)I"⟩
abbrev cX6_now : ByteArray := prog_1_method_14_code
def yX6_now : MethodName := ⟨RX6, "now", "()I"⟩
abbrev cX6_state : ByteArray := prog_1_method_15_code
def yX6_state : MethodName := ⟨RX6, "state", "(I)I"⟩
abbrev cX6_ends : ByteArray := prog_1_method_16_code
def yX6_ends : MethodName := ⟨RX6, "ends", "(I)I"⟩
abbrev cX6_busAfter : ByteArray := prog_1_method_17_code
def yX6_busAfter : MethodName := ⟨RX6, "busAfter", "(I)I"⟩
abbrev cX6_place : ByteArray := prog_1_method_18_code
def yX6_place : MethodName := ⟨RX6, "place", "(I)I"⟩
abbrev cX6_placeByLine : ByteArray := prog_1_method_19_code
def yX6_placeByLine : MethodName := ⟨RX6, "placeByLine", "(II)I"⟩
abbrev cX6_fuel : ByteArray := prog_1_method_20_code
def yX6_fuel : MethodName := ⟨RX6, "fuel", "(I)I"⟩
abbrev cX6_book : ByteArray := prog_1_method_21_code
def yX6_book : MethodName := ⟨RX6, "book", "(IIIIIZ)I"⟩
abbrev cX6_sailingOf : ByteArray := prog_1_method_22_code
def yX6_sailingOf : MethodName := ⟨RX6, "sailingOf", "(I)I"⟩
abbrev cX6_lane : ByteArray := prog_1_method_23_code
def yX6_lane : MethodName := ⟨RX6, "lane", "(I)I"⟩
abbrev cX6_paid : ByteArray := prog_1_method_24_code
def yX6_paid : MethodName := ⟨RX6, "paid", "(I)I"⟩
abbrev cX6_taken : ByteArray := prog_1_method_25_code
def yX6_taken : MethodName := ⟨RX6, "taken", "(I)I"⟩
abbrev cX6_list : ByteArray := prog_1_method_26_code
def yX6_list : MethodName := ⟨RX6, "list", "(I)I"⟩
abbrev cX6_account : ByteArray := prog_1_method_27_code
def yX6_account : MethodName := ⟨RX6, "account", "(I)J"⟩
abbrev cX6_accountAnew : ByteArray := prog_1_method_28_code
def yX6_accountAnew : MethodName := ⟨RX6, "accountAnew", "(I)J"⟩
abbrev cX6_isWithin : ByteArray := prog_1_method_29_code
def yX6_isWithin : MethodName := ⟨RX6, "isWithin", "(III)Z"⟩
abbrev cX6_demandIndex : ByteArray := prog_1_method_30_code
def yX6_demandIndex : MethodName := ⟨RX6, "demandIndex", "(II)V"⟩
abbrev cX6_demandArgument : ByteArray := prog_1_method_31_code
def yX6_demandArgument : MethodName := ⟨RX6, "demandArgument", "(Z)V"⟩
abbrev cX6_demandState : ByteArray := prog_1_method_32_code
def yX6_demandState : MethodName := ⟨RX6, "demandState", "(Z)V"⟩
abbrev cX6_knownShip : ByteArray := prog_1_method_33_code
def yX6_knownShip : MethodName := ⟨RX6, "knownShip", "(I)LArchipelagoFerries$Ship;"⟩
abbrev cX6_knownCrew : ByteArray := prog_1_method_34_code
def yX6_knownCrew : MethodName := ⟨RX6, "knownCrew", "(I)LArchipelagoFerries$Crew;"⟩
abbrev cX6_knownSailing : ByteArray := prog_1_method_35_code
def yX6_knownSailing : MethodName := ⟨RX6, "knownSailing", "(I)LArchipelagoFerries$Sailing;"⟩
abbrev cX6_knownBooking : ByteArray := prog_1_method_36_code
def yX6_knownBooking : MethodName := ⟨RX6, "knownBooking", "(I)LArchipelagoFerries$Booking;"⟩
abbrev cX6_isBookable : ByteArray := prog_1_method_37_code
def yX6_isBookable : MethodName := ⟨RX6, "isBookable", "(IIIZ)Z"⟩
abbrev cX6_spanFor : ByteArray := prog_1_method_38_code
def yX6_spanFor : MethodName := ⟨RX6, "spanFor", "(II)LArchipelagoFerries$Span;"⟩
abbrev cX6_depthAt : ByteArray := prog_1_method_39_code
def yX6_depthAt : MethodName := ⟨RX6, "depthAt", "(II)I"⟩
abbrev cX6_lastSailing : ByteArray := prog_1_method_40_code
def yX6_lastSailing : MethodName := ⟨RX6, "lastSailing", "(I)I"⟩
abbrev cX6_whereWas : ByteArray := prog_1_method_41_code
def yX6_whereWas : MethodName := ⟨RX6, "whereWas", "(II)I"⟩
abbrev cX6_isFree : ByteArray := prog_1_method_42_code
def yX6_isFree : MethodName := ⟨RX6, "isFree", "(I)Z"⟩
abbrev cX6_addSailing : ByteArray := prog_1_method_43_code
def yX6_addSailing : MethodName := ⟨RX6, "addSailing", "(IIIII)I"⟩
abbrev cX6_lookAt : ByteArray := prog_1_method_44_code
def yX6_lookAt : MethodName := ⟨RX6, "lookAt", "(I)V"⟩
abbrev cX6_reasonAgainst : ByteArray := prog_1_method_45_code
def yX6_reasonAgainst : MethodName := ⟨RX6, "reasonAgainst", "(I)I"⟩
abbrev cX6_crewFor : ByteArray := prog_1_method_46_code
def yX6_crewFor : MethodName := ⟨RX6, "crewFor", "(LArchipelagoFerries$Sailing;)I"⟩
abbrev cX6_hoursSailed : ByteArray := prog_1_method_47_code
def yX6_hoursSailed : MethodName := ⟨RX6, "hoursSailed", "(II)I"⟩
abbrev cX6_callOff : ByteArray := prog_1_method_48_code
def yX6_callOff : MethodName := ⟨RX6, "callOff", "(II)I"⟩
abbrev cX6_setSail : ByteArray := prog_1_method_49_code
def yX6_setSail : MethodName := ⟨RX6, "setSail", "(I)V"⟩
abbrev cX6_takeThose : ByteArray := prog_1_method_50_code
def yX6_takeThose : MethodName := ⟨RX6, "takeThose", "(IZ)V"⟩
abbrev cX6_evenOut : ByteArray := prog_1_method_51_code
def yX6_evenOut : MethodName := ⟨RX6, "evenOut", "(I)V"⟩
abbrev cX6_putOffLast : ByteArray := prog_1_method_52_code
def yX6_putOffLast : MethodName := ⟨RX6, "putOffLast", "(I)V"⟩
abbrev cX6_sendOver : ByteArray := prog_1_method_53_code
def yX6_sendOver : MethodName := ⟨RX6, "sendOver", "(I)I"⟩
abbrev cX6_nextLike : ByteArray := prog_1_method_54_code
def yX6_nextLike : MethodName := ⟨RX6, "nextLike", "(I)I"⟩
abbrev cX6_goOver : ByteArray := prog_1_method_55_code
def yX6_goOver : MethodName := ⟨RX6, "goOver", "(LArchipelagoFerries$Booking;I)V"⟩
abbrev cX6_fareFor : ByteArray := prog_1_method_56_code
def yX6_fareFor : MethodName := ⟨RX6, "fareFor", "(I)I"⟩
abbrev cX6_payFor : ByteArray := prog_1_method_57_code
def yX6_payFor : MethodName := ⟨RX6, "payFor", "(LArchipelagoFerries$Booking;I)V"⟩
abbrev cX6_payBack : ByteArray := prog_1_method_58_code
def yX6_payBack : MethodName := ⟨RX6, "payBack", "(LArchipelagoFerries$Booking;)V"⟩
def RX7 : String := "ArchipelagoFerriesModel"
def TX7 : u_T := fun k => match k with
  | 0 => ("ArchipelagoFerriesModel", "now", "I", false)
  | 1 => ("ArchipelagoFerriesModel", "ships", "I", false)
  | 2 => ("ArchipelagoFerriesModel", "homes", "[I", true)
  | 3 => ("ArchipelagoFerriesModel", "lanes", "[I", true)
  | 4 => ("ArchipelagoFerriesModel", "sizes", "[I", true)
  | 5 => ("ArchipelagoFerriesModel", "mosts", "[I", true)
  | 6 => ("ArchipelagoFerriesModel", "draughts", "[I", true)
  | 7 => ("ArchipelagoFerriesModel", "speeds", "[I", true)
  | 8 => ("ArchipelagoFerriesModel", "tanks", "[I", true)
  | 9 => ("ArchipelagoFerriesModel", "crews", "I", false)
  | 10 => ("ArchipelagoFerriesModel", "boards", "[I", true)
  | 11 => ("ArchipelagoFerriesModel", "firsts", "[I", true)
  | 12 => ("ArchipelagoFerriesModel", "lasts", "[I", true)
  | 13 => ("ArchipelagoFerriesModel", "sailed", "[I", true)
  | 14 => ("ArchipelagoFerriesModel", "hinderFrom", "[I", true)
  | 15 => ("ArchipelagoFerriesModel", "hinderTo", "[I", true)
  | 16 => ("ArchipelagoFerriesModel", "eachBus", "[I", true)
  | 17 => ("ArchipelagoFerriesModel", "firstBus", "[I", true)
  | 18 => ("ArchipelagoFerriesModel", "residences", "[I", true)
  | 19 => ("ArchipelagoFerriesModel", "sailings", "I", false)
  | 20 => ("ArchipelagoFerriesModel", "ofShip", "[I", true)
  | 21 => ("ArchipelagoFerriesModel", "froms", "[I", true)
  | 22 => ("ArchipelagoFerriesModel", "tos", "[I", true)
  | 23 => ("ArchipelagoFerriesModel", "begins", "[I", true)
  | 24 => ("ArchipelagoFerriesModel", "distances", "[I", true)
  | 25 => ("ArchipelagoFerriesModel", "states", "[I", true)
  | 26 => ("ArchipelagoFerriesModel", "reasons", "[I", true)
  | 27 => ("ArchipelagoFerriesModel", "replaced", "[I", true)
  | 28 => ("ArchipelagoFerriesModel", "leftWeights", "[I", true)
  | 29 => ("ArchipelagoFerriesModel", "rightWeights", "[I", true)
  | 30 => ("ArchipelagoFerriesModel", "bookings", "I", false)
  | 31 => ("ArchipelagoFerriesModel", "persons", "[I", true)
  | 32 => ("ArchipelagoFerriesModel", "waits", "[I", true)
  | 33 => ("ArchipelagoFerriesModel", "kinds", "[I", true)
  | 34 => ("ArchipelagoFerriesModel", "lengths", "[I", true)
  | 35 => ("ArchipelagoFerriesModel", "weights", "[I", true)
  | 36 => ("ArchipelagoFerriesModel", "dangers", "[I", true)
  | 37 => ("ArchipelagoFerriesModel", "locals", "[I", true)
  | 38 => ("ArchipelagoFerriesModel", "pays", "[I", true)
  | 39 => ("ArchipelagoFerriesModel", "statePays", "[I", true)
  | 40 => ("ArchipelagoFerriesModel", "overs", "[I", true)
  | 41 => ("ArchipelagoFerriesModel", "isTaken", "[I", true)
  | 42 => ("ArchipelagoFerriesModel", "inLane", "[I", true)
  | 43 => ("ArchipelagoFerriesModel", "used", "[I", true)
  | 44 => ("ArchipelagoFerriesModel", "bad", "[I", true)
  | 45 => ("ArchipelagoFerriesModel", "order", "[I", true)
  | 46 => ("ArchipelagoFerriesModel", "ordered", "I", false)
  | 47 => ("ArchipelagoFerriesModel", "onBoard", "I", false)
  | 48 => ("ArchipelagoFerriesModel", "badOnBoard", "I", false)
  | 49 => ("ArchipelagoFerriesModel", "fares", "J", false)
  | 50 => ("ArchipelagoFerriesModel", "state", "J", false)
  | 51 => ("ArchipelagoFerriesModel", "fuel", "J", false)
  | _ => ("ArchipelagoFerriesModel", "thrown", "I", false)
def tyX7 : Nat → FieldType := fun k => match k with
  | 0 => .int
  | 1 => .int
  | 2 => .array .int
  | 3 => .array .int
  | 4 => .array .int
  | 5 => .array .int
  | 6 => .array .int
  | 7 => .array .int
  | 8 => .array .int
  | 9 => .int
  | 10 => .array .int
  | 11 => .array .int
  | 12 => .array .int
  | 13 => .array .int
  | 14 => .array .int
  | 15 => .array .int
  | 16 => .array .int
  | 17 => .array .int
  | 18 => .array .int
  | 19 => .int
  | 20 => .array .int
  | 21 => .array .int
  | 22 => .array .int
  | 23 => .array .int
  | 24 => .array .int
  | 25 => .array .int
  | 26 => .array .int
  | 27 => .array .int
  | 28 => .array .int
  | 29 => .array .int
  | 30 => .int
  | 31 => .array .int
  | 32 => .array .int
  | 33 => .array .int
  | 34 => .array .int
  | 35 => .array .int
  | 36 => .array .int
  | 37 => .array .int
  | 38 => .array .int
  | 39 => .array .int
  | 40 => .array .int
  | 41 => .array .int
  | 42 => .array .int
  | 43 => .array .int
  | 44 => .array .int
  | 45 => .array .int
  | 46 => .int
  | 47 => .int
  | 48 => .int
  | 49 => .long
  | 50 => .long
  | 51 => .long
  | _ => .int
abbrev wsX70 : List Cond := u_ws RX7 TX7 53
theorem nmX7 : ∀ a, a < 53 → ∀ b, b < 53 → a ≠ b → (TX7 a).2.1 ≠ (TX7 b).2.1 := by decide +kernel
theorem tyX7_ok : ∀ k, k < 53 → parseFieldDescriptor (TX7 k).2.2.1 = some (tyX7 k) := by decide +kernel
abbrev cX7_init : ByteArray := prog_9_method_1_code
def yX7_init : MethodName := ⟨RX7, "<init>", "()V"⟩
abbrev cX7_thrown : ByteArray := prog_9_method_2_code
def yX7_thrown : MethodName := ⟨RX7, "thrown", "()I"⟩
abbrev cX7_in : ByteArray := prog_9_method_3_code
def yX7_in : MethodName := ⟨RX7, "in", "(III)Z"⟩
abbrev cX7_isIsland : ByteArray := prog_9_method_4_code
def yX7_isIsland : MethodName := ⟨RX7, "isIsland", "(I)Z"⟩
abbrev cX7_isShip : ByteArray := prog_9_method_5_code
def yX7_isShip : MethodName := ⟨RX7, "isShip", "(I)Z"⟩
abbrev cX7_hasSailing : ByteArray := prog_9_method_6_code
def yX7_hasSailing : MethodName := ⟨RX7, "hasSailing", "(I)Z"⟩
abbrev cX7_hasBooking : ByteArray := prog_9_method_7_code
def yX7_hasBooking : MethodName := ⟨RX7, "hasBooking", "(I)Z"⟩
abbrev cX7_ship : ByteArray := prog_9_method_8_code
def yX7_ship : MethodName := ⟨RX7, "ship", "(IIIIII)I"⟩
abbrev cX7_fill : ByteArray := prog_9_method_9_code
def yX7_fill : MethodName := ⟨RX7, "fill", "(II)I"⟩
abbrev cX7_crew : ByteArray := prog_9_method_10_code
def yX7_crew : MethodName := ⟨RX7, "crew", "(III)I"⟩
abbrev cX7_hours : ByteArray := prog_9_method_11_code
def yX7_hours : MethodName := ⟨RX7, "hours", "(II)I"⟩
abbrev cX7_depthOf : ByteArray := prog_9_method_12_code
def yX7_depthOf : MethodName := ⟨RX7, "depthOf", "(II)I"⟩
abbrev cX7_depth : ByteArray := prog_9_method_13_code
def yX7_depth : MethodName := ⟨RX7, "depth", "(II)I"⟩
abbrev cX7_hinder : ByteArray := prog_9_method_14_code
def yX7_hinder : MethodName := ⟨RX7, "hinder", "(IIII)V"⟩
abbrev cX7_hinders : ByteArray := prog_9_method_15_code
def yX7_hinders : MethodName := ⟨RX7, "hinders", "(II)Z"⟩
abbrev cX7_bus : ByteArray := prog_9_method_16_code
def yX7_bus : MethodName := ⟨RX7, "bus", "(III)V"⟩
abbrev cX7_reside : ByteArray := prog_9_method_17_code
def yX7_reside : MethodName := ⟨RX7, "reside", "(II)I"⟩
abbrev cX7_hoursOf : ByteArray := prog_9_method_18_code
def yX7_hoursOf : MethodName := ⟨RX7, "hoursOf", "(I)I"⟩
abbrev cX7_endOf : ByteArray := prog_9_method_19_code
def yX7_endOf : MethodName := ⟨RX7, "endOf", "(I)I"⟩
abbrev cX7_placeIn : ByteArray := prog_9_method_20_code
def yX7_placeIn : MethodName := ⟨RX7, "placeIn", "(II)I"⟩
abbrev cX7_lastOf : ByteArray := prog_9_method_21_code
def yX7_lastOf : MethodName := ⟨RX7, "lastOf", "(I)I"⟩
abbrev cX7_makes : ByteArray := prog_9_method_22_code
def yX7_makes : MethodName := ⟨RX7, "makes", "(IIIII)I"⟩
abbrev cX7_plan : ByteArray := prog_9_method_23_code
def yX7_plan : MethodName := ⟨RX7, "plan", "(IIII)I"⟩
abbrev cX7_goesOver : ByteArray := prog_9_method_24_code
def yX7_goesOver : MethodName := ⟨RX7, "goesOver", "(I)V"⟩
abbrev cX7_empties : ByteArray := prog_9_method_25_code
def yX7_empties : MethodName := ⟨RX7, "empties", "(I)I"⟩
abbrev cX7_cancel : ByteArray := prog_9_method_26_code
def yX7_cancel : MethodName := ⟨RX7, "cancel", "(I)I"⟩
abbrev cX7_replace : ByteArray := prog_9_method_27_code
def yX7_replace : MethodName := ⟨RX7, "replace", "(II)I"⟩
abbrev cX7_crewFor : ByteArray := prog_9_method_28_code
def yX7_crewFor : MethodName := ⟨RX7, "crewFor", "(I)I"⟩
abbrev cX7_burns : ByteArray := prog_9_method_29_code
def yX7_burns : MethodName := ⟨RX7, "burns", "(I)I"⟩
abbrev cX7_reasonFor : ByteArray := prog_9_method_30_code
def yX7_reasonFor : MethodName := ⟨RX7, "reasonFor", "(I)I"⟩
abbrev cX7_sideOf : ByteArray := prog_9_method_31_code
def yX7_sideOf : MethodName := ⟨RX7, "sideOf", "(II)I"⟩
abbrev cX7_difference : ByteArray := prog_9_method_32_code
def yX7_difference : MethodName := ⟨RX7, "difference", "(III)I"⟩
abbrev cX7_fits : ByteArray := prog_9_method_33_code
def yX7_fits : MethodName := ⟨RX7, "fits", "(III)Z"⟩
abbrev cX7_puts : ByteArray := prog_9_method_34_code
def yX7_puts : MethodName := ⟨RX7, "puts", "(IIII)V"⟩
abbrev cX7_takes : ByteArray := prog_9_method_35_code
def yX7_takes : MethodName := ⟨RX7, "takes", "(II)V"⟩
abbrev cX7_putsOff : ByteArray := prog_9_method_36_code
def yX7_putsOff : MethodName := ⟨RX7, "putsOff", "(I)V"⟩
abbrev cX7_sails : ByteArray := prog_9_method_37_code
def yX7_sails : MethodName := ⟨RX7, "sails", "(I)V"⟩
abbrev cX7_pass : ByteArray := prog_9_method_38_code
def yX7_pass : MethodName := ⟨RX7, "pass", "(I)I"⟩
abbrev cX7_now : ByteArray := prog_9_method_39_code
def yX7_now : MethodName := ⟨RX7, "now", "()I"⟩
abbrev cX7_state : ByteArray := prog_9_method_40_code
def yX7_state : MethodName := ⟨RX7, "state", "(I)I"⟩
abbrev cX7_ends : ByteArray := prog_9_method_41_code
def yX7_ends : MethodName := ⟨RX7, "ends", "(I)I"⟩
abbrev cX7_busAfter : ByteArray := prog_9_method_42_code
def yX7_busAfter : MethodName := ⟨RX7, "busAfter", "(I)I"⟩
abbrev cX7_place : ByteArray := prog_9_method_43_code
def yX7_place : MethodName := ⟨RX7, "place", "(I)I"⟩
abbrev cX7_placeByLine : ByteArray := prog_9_method_44_code
def yX7_placeByLine : MethodName := ⟨RX7, "placeByLine", "(II)I"⟩
abbrev cX7_fuel : ByteArray := prog_9_method_45_code
def yX7_fuel : MethodName := ⟨RX7, "fuel", "(I)I"⟩
abbrev cX7_book : ByteArray := prog_9_method_46_code
def yX7_book : MethodName := ⟨RX7, "book", "(IIIIIZ)I"⟩
abbrev cX7_sailingOf : ByteArray := prog_9_method_47_code
def yX7_sailingOf : MethodName := ⟨RX7, "sailingOf", "(I)I"⟩
abbrev cX7_lane : ByteArray := prog_9_method_48_code
def yX7_lane : MethodName := ⟨RX7, "lane", "(I)I"⟩
abbrev cX7_paid : ByteArray := prog_9_method_49_code
def yX7_paid : MethodName := ⟨RX7, "paid", "(I)I"⟩
abbrev cX7_taken : ByteArray := prog_9_method_50_code
def yX7_taken : MethodName := ⟨RX7, "taken", "(I)I"⟩
abbrev cX7_list : ByteArray := prog_9_method_51_code
def yX7_list : MethodName := ⟨RX7, "list", "(I)I"⟩
abbrev cX7_account : ByteArray := prog_9_method_52_code
def yX7_account : MethodName := ⟨RX7, "account", "(I)J"⟩
abbrev cX7_accountAnew : ByteArray := prog_9_method_53_code
def yX7_accountAnew : MethodName := ⟨RX7, "accountAnew", "(I)J"⟩
def RJx145de : String := "java/io/Serializable"
def TJx145de : u_T := fun k => match k with
  | _ => ("", "", "", false)
def tyJx145de : Nat → FieldType := fun k => match k with
  | _ => .int
abbrev wsJx145de0 : List Cond := u_ws RJx145de TJx145de 0
theorem nmJx145de : ∀ a, a < 0 → ∀ b, b < 0 → a ≠ b → (TJx145de a).2.1 ≠ (TJx145de b).2.1 := by decide +kernel
theorem tyJx145de_ok : ∀ k, k < 0 → parseFieldDescriptor (TJx145de k).2.2.1 = some (tyJx145de k) := by decide +kernel
def RJ9 : String := "java/lang/Math"
def TJ9 : u_T := fun k => match k with
  | _ => ("", "", "", false)
def tyJ9 : Nat → FieldType := fun k => match k with
  | _ => .int
abbrev wsJ90 : List Cond := u_ws RJ9 TJ9 0
theorem nmJ9 : ∀ a, a < 0 → ∀ b, b < 0 → a ≠ b → (TJ9 a).2.1 ≠ (TJ9 b).2.1 := by decide +kernel
theorem tyJ9_ok : ∀ k, k < 0 → parseFieldDescriptor (TJ9 k).2.2.1 = some (tyJ9 k) := by decide +kernel
abbrev cJ9_floorMod_7cf53 : ByteArray := prog_15_method_50_code
def yJ9_floorMod_7cf53 : MethodName := ⟨RJ9, "floorMod", "(II)I"⟩
abbrev cJ9_abs_0f7a4 : ByteArray := prog_15_method_59_code
def yJ9_abs_0f7a4 : MethodName := ⟨RJ9, "abs", "(I)I"⟩
abbrev cJ9_max_7cf53 : ByteArray := prog_15_method_65_code
def yJ9_max_7cf53 : MethodName := ⟨RJ9, "max", "(II)I"⟩
def RL : String := "ArchipelagoFerriesLaw"
abbrev cL_ship : ByteArray := method_3_code
def yL_ship : MethodName := ⟨RL, "ship", "(LArchipelagoFerries;IIIIII[J)I"⟩
abbrev cL_fill : ByteArray := method_4_code
def yL_fill : MethodName := ⟨RL, "fill", "(LArchipelagoFerries;II[J)I"⟩
abbrev cL_crew : ByteArray := method_5_code
def yL_crew : MethodName := ⟨RL, "crew", "(LArchipelagoFerries;III[J)I"⟩
abbrev cL_hours : ByteArray := method_6_code
def yL_hours : MethodName := ⟨RL, "hours", "(LArchipelagoFerries;II[J)I"⟩
abbrev cL_depth : ByteArray := method_7_code
def yL_depth : MethodName := ⟨RL, "depth", "(LArchipelagoFerries;II[J)I"⟩
abbrev cL_hinder : ByteArray := method_8_code
def yL_hinder : MethodName := ⟨RL, "hinder", "(LArchipelagoFerries;IIII)I"⟩
abbrev cL_bus : ByteArray := method_9_code
def yL_bus : MethodName := ⟨RL, "bus", "(LArchipelagoFerries;III)I"⟩
abbrev cL_reside : ByteArray := method_10_code
def yL_reside : MethodName := ⟨RL, "reside", "(LArchipelagoFerries;II[J)I"⟩
abbrev cL_plan : ByteArray := method_11_code
def yL_plan : MethodName := ⟨RL, "plan", "(LArchipelagoFerries;IIII[J)I"⟩
abbrev cL_cancel : ByteArray := method_12_code
def yL_cancel : MethodName := ⟨RL, "cancel", "(LArchipelagoFerries;I[J)I"⟩
abbrev cL_replace : ByteArray := method_13_code
def yL_replace : MethodName := ⟨RL, "replace", "(LArchipelagoFerries;II[J)I"⟩
abbrev cL_pass : ByteArray := method_14_code
def yL_pass : MethodName := ⟨RL, "pass", "(LArchipelagoFerries;I[J)I"⟩
abbrev cL_state : ByteArray := method_15_code
def yL_state : MethodName := ⟨RL, "state", "(LArchipelagoFerries;I[J)I"⟩
abbrev cL_ends : ByteArray := method_16_code
def yL_ends : MethodName := ⟨RL, "ends", "(LArchipelagoFerries;I[J)I"⟩
abbrev cL_busAfter : ByteArray := method_17_code
def yL_busAfter : MethodName := ⟨RL, "busAfter", "(LArchipelagoFerries;I[J)I"⟩
abbrev cL_place : ByteArray := method_18_code
def yL_place : MethodName := ⟨RL, "place", "(LArchipelagoFerries;I[J)I"⟩
abbrev cL_placeByLine : ByteArray := method_19_code
def yL_placeByLine : MethodName := ⟨RL, "placeByLine", "(LArchipelagoFerries;II[J)I"⟩
abbrev cL_fuel : ByteArray := method_20_code
def yL_fuel : MethodName := ⟨RL, "fuel", "(LArchipelagoFerries;I[J)I"⟩
abbrev cL_book : ByteArray := method_21_code
def yL_book : MethodName := ⟨RL, "book", "(LArchipelagoFerries;IIIIIZ[J)I"⟩
abbrev cL_sailingOf : ByteArray := method_22_code
def yL_sailingOf : MethodName := ⟨RL, "sailingOf", "(LArchipelagoFerries;I[J)I"⟩
abbrev cL_lane : ByteArray := method_23_code
def yL_lane : MethodName := ⟨RL, "lane", "(LArchipelagoFerries;I[J)I"⟩
abbrev cL_paid : ByteArray := method_24_code
def yL_paid : MethodName := ⟨RL, "paid", "(LArchipelagoFerries;I[J)I"⟩
abbrev cL_taken : ByteArray := method_25_code
def yL_taken : MethodName := ⟨RL, "taken", "(LArchipelagoFerries;I[J)I"⟩
abbrev cL_list : ByteArray := method_26_code
def yL_list : MethodName := ⟨RL, "list", "(LArchipelagoFerries;I[J)I"⟩
abbrev cL_account : ByteArray := method_27_code
def yL_account : MethodName := ⟨RL, "account", "(LArchipelagoFerries;I[J)I"⟩
abbrev cL_accountAnew : ByteArray := method_28_code
def yL_accountAnew : MethodName := ⟨RL, "accountAnew", "(LArchipelagoFerries;I[J)I"⟩
abbrev cL_law : ByteArray := code
def yL_law : MethodName := ⟨RL, "law", "([I)Z"⟩
abbrev vwCl : List vw_C := [(RX0, TX0, 12), (RX1, TX1, 2), (RX2, TX2, 9), (RX3, TX3, 11), (RX4, TX4, 8), (RX5, TX5, 2), (RX6, TX6, 16), (RX7, TX7, 53)]
end
section
theorem dX0_init_0 : decode cX0_init 0 = .ok (.aload_n 0, 1) := by decide +kernel
theorem dX0_init_1 : decode cX0_init 1 = .ok (.invokespecial 3, 3) := by decide +kernel
theorem dX0_init_4 : decode cX0_init 4 = .ok (.aload_n 0, 1) := by decide +kernel
theorem dX0_init_5 : decode cX0_init 5 = .ok (.iconst (-1), 1) := by decide +kernel
theorem dX0_init_6 : decode cX0_init 6 = .ok (.putfield 9, 3) := by decide +kernel
theorem dX0_init_9 : decode cX0_init 9 = .ok (.aload_n 0, 1) := by decide +kernel
theorem dX0_init_10 : decode cX0_init 10 = .ok (.iconst 0, 1) := by decide +kernel
theorem dX0_init_11 : decode cX0_init 11 = .ok (.putfield 15, 3) := by decide +kernel
theorem dX0_init_14 : decode cX0_init 14 = .ok (.aload_n 0, 1) := by decide +kernel
theorem dX0_init_15 : decode cX0_init 15 = .ok (.iconst 0, 1) := by decide +kernel
theorem dX0_init_16 : decode cX0_init 16 = .ok (.putfield 18, 3) := by decide +kernel
theorem dX0_init_19 : decode cX0_init 19 = .ok (.aload_n 0, 1) := by decide +kernel
theorem dX0_init_20 : decode cX0_init 20 = .ok (.iconst 0, 1) := by decide +kernel
theorem dX0_init_21 : decode cX0_init 21 = .ok (.putfield 21, 3) := by decide +kernel
theorem dX0_init_24 : decode cX0_init 24 = .ok (.aload_n 0, 1) := by decide +kernel
theorem dX0_init_25 : decode cX0_init 25 = .ok (.iconst (-1), 1) := by decide +kernel
theorem dX0_init_26 : decode cX0_init 26 = .ok (.putfield 24, 3) := by decide +kernel
theorem dX0_init_29 : decode cX0_init 29 = .ok (.aload_n 0, 1) := by decide +kernel
theorem dX0_init_30 : decode cX0_init 30 = .ok (.iconst 0, 1) := by decide +kernel
theorem dX0_init_31 : decode cX0_init 31 = .ok (.putfield 27, 3) := by decide +kernel
theorem dX0_init_34 : decode cX0_init 34 = .ok (.aload_n 0, 1) := by decide +kernel
theorem dX0_init_35 : decode cX0_init 35 = .ok (.iconst 0, 1) := by decide +kernel
theorem dX0_init_36 : decode cX0_init 36 = .ok (.putfield 30, 3) := by decide +kernel
theorem dX0_init_39 : decode cX0_init 39 = .ok (.aload_n 0, 1) := by decide +kernel
theorem dX0_init_40 : decode cX0_init 40 = .ok (.iconst 0, 1) := by decide +kernel
theorem dX0_init_41 : decode cX0_init 41 = .ok (.putfield 33, 3) := by decide +kernel
theorem dX0_init_44 : decode cX0_init 44 = .ok (.aload_n 0, 1) := by decide +kernel
theorem dX0_init_45 : decode cX0_init 45 = .ok (.iconst 0, 1) := by decide +kernel
theorem dX0_init_46 : decode cX0_init 46 = .ok (.putfield 36, 3) := by decide +kernel
theorem dX0_init_49 : decode cX0_init 49 = .ok (.aload_n 0, 1) := by decide +kernel
theorem dX0_init_50 : decode cX0_init 50 = .ok (.iconst 0, 1) := by decide +kernel
theorem dX0_init_51 : decode cX0_init 51 = .ok (.putfield 39, 3) := by decide +kernel
theorem dX0_init_54 : decode cX0_init 54 = .ok (.aload_n 0, 1) := by decide +kernel
theorem dX0_init_55 : decode cX0_init 55 = .ok (.iconst 0, 1) := by decide +kernel
theorem dX0_init_56 : decode cX0_init 56 = .ok (.putfield 43, 3) := by decide +kernel
theorem dX0_init_59 : decode cX0_init 59 = .ok (.aload_n 0, 1) := by decide +kernel
theorem dX0_init_60 : decode cX0_init 60 = .ok (.iconst 0, 1) := by decide +kernel
theorem dX0_init_61 : decode cX0_init 61 = .ok (.putfield 46, 3) := by decide +kernel
theorem dX0_init_64 : decode cX0_init 64 = .ok (.return_, 1) := by decide +kernel
theorem dX1_init_0 : decode cX1_init 0 = .ok (.aload_n 0, 1) := by decide +kernel
theorem dX1_init_1 : decode cX1_init 1 = .ok (.invokespecial 3, 3) := by decide +kernel
theorem dX1_init_4 : decode cX1_init 4 = .ok (.aload_n 0, 1) := by decide +kernel
theorem dX1_init_5 : decode cX1_init 5 = .ok (.iconst (-1), 1) := by decide +kernel
theorem dX1_init_6 : decode cX1_init 6 = .ok (.putfield 9, 3) := by decide +kernel
theorem dX1_init_9 : decode cX1_init 9 = .ok (.aload_n 0, 1) := by decide +kernel
theorem dX1_init_10 : decode cX1_init 10 = .ok (.new 15, 3) := by decide +kernel
theorem dX1_init_13 : decode cX1_init 13 = .ok (.dup, 1) := by decide +kernel
theorem dX1_init_14 : decode cX1_init 14 = .ok (.invokespecial 17, 3) := by decide +kernel
theorem dX1_init_17 : decode cX1_init 17 = .ok (.putfield 18, 3) := by decide +kernel
theorem dX1_init_20 : decode cX1_init 20 = .ok (.return_, 1) := by decide +kernel
theorem dX2_init_0 : decode cX2_init 0 = .ok (.aload_n 0, 1) := by decide +kernel
theorem dX2_init_1 : decode cX2_init 1 = .ok (.invokespecial 3, 3) := by decide +kernel
theorem dX2_init_4 : decode cX2_init 4 = .ok (.aload_n 0, 1) := by decide +kernel
theorem dX2_init_5 : decode cX2_init 5 = .ok (.iconst 4, 1) := by decide +kernel
theorem dX2_init_6 : decode cX2_init 6 = .ok (.newarray .int, 2) := by decide +kernel
theorem dX2_init_8 : decode cX2_init 8 = .ok (.putfield 9, 3) := by decide +kernel
theorem dX2_init_11 : decode cX2_init 11 = .ok (.aload_n 0, 1) := by decide +kernel
theorem dX2_init_12 : decode cX2_init 12 = .ok (.iconst 4, 1) := by decide +kernel
theorem dX2_init_13 : decode cX2_init 13 = .ok (.newarray .boolean, 2) := by decide +kernel
theorem dX2_init_15 : decode cX2_init 15 = .ok (.putfield 15, 3) := by decide +kernel
theorem dX2_init_18 : decode cX2_init 18 = .ok (.aload_n 0, 1) := by decide +kernel
theorem dX2_init_19 : decode cX2_init 19 = .ok (.iconst 0, 1) := by decide +kernel
theorem dX2_init_20 : decode cX2_init 20 = .ok (.putfield 19, 3) := by decide +kernel
theorem dX2_init_23 : decode cX2_init 23 = .ok (.aload_n 0, 1) := by decide +kernel
theorem dX2_init_24 : decode cX2_init 24 = .ok (.iconst 0, 1) := by decide +kernel
theorem dX2_init_25 : decode cX2_init 25 = .ok (.putfield 23, 3) := by decide +kernel
theorem dX2_init_28 : decode cX2_init 28 = .ok (.aload_n 0, 1) := by decide +kernel
theorem dX2_init_29 : decode cX2_init 29 = .ok (.iconst 0, 1) := by decide +kernel
theorem dX2_init_30 : decode cX2_init 30 = .ok (.putfield 26, 3) := by decide +kernel
theorem dX2_init_33 : decode cX2_init 33 = .ok (.aload_n 0, 1) := by decide +kernel
theorem dX2_init_34 : decode cX2_init 34 = .ok (.iconst 0, 1) := by decide +kernel
theorem dX2_init_35 : decode cX2_init 35 = .ok (.putfield 29, 3) := by decide +kernel
theorem dX2_init_38 : decode cX2_init 38 = .ok (.aload_n 0, 1) := by decide +kernel
theorem dX2_init_39 : decode cX2_init 39 = .ok (.iconst 0, 1) := by decide +kernel
theorem dX2_init_40 : decode cX2_init 40 = .ok (.putfield 32, 3) := by decide +kernel
theorem dX2_init_43 : decode cX2_init 43 = .ok (.aload_n 0, 1) := by decide +kernel
theorem dX2_init_44 : decode cX2_init 44 = .ok (.iconst 0, 1) := by decide +kernel
theorem dX2_init_45 : decode cX2_init 45 = .ok (.putfield 35, 3) := by decide +kernel
theorem dX2_init_48 : decode cX2_init 48 = .ok (.aload_n 0, 1) := by decide +kernel
theorem dX2_init_49 : decode cX2_init 49 = .ok (.iconst 0, 1) := by decide +kernel
theorem dX2_init_50 : decode cX2_init 50 = .ok (.putfield 38, 3) := by decide +kernel
theorem dX2_init_53 : decode cX2_init 53 = .ok (.return_, 1) := by decide +kernel
theorem dX2_clear_0 : decode cX2_clear 0 = .ok (.aload_n 0, 1) := by decide +kernel
theorem dX2_clear_1 : decode cX2_clear 1 = .ok (.aload_n 1, 1) := by decide +kernel
theorem dX2_clear_2 : decode cX2_clear 2 = .ok (.getfield 41, 3) := by decide +kernel
theorem dX2_clear_5 : decode cX2_clear 5 = .ok (.putfield 19, 3) := by decide +kernel
theorem dX2_clear_8 : decode cX2_clear 8 = .ok (.aload_n 0, 1) := by decide +kernel
theorem dX2_clear_9 : decode cX2_clear 9 = .ok (.aload_n 1, 1) := by decide +kernel
theorem dX2_clear_10 : decode cX2_clear 10 = .ok (.getfield 44, 3) := by decide +kernel
theorem dX2_clear_13 : decode cX2_clear 13 = .ok (.putfield 23, 3) := by decide +kernel
theorem dX2_clear_16 : decode cX2_clear 16 = .ok (.aload_n 0, 1) := by decide +kernel
theorem dX2_clear_17 : decode cX2_clear 17 = .ok (.aload_n 1, 1) := by decide +kernel
theorem dX2_clear_18 : decode cX2_clear 18 = .ok (.getfield 45, 3) := by decide +kernel
theorem dX2_clear_21 : decode cX2_clear 21 = .ok (.putfield 26, 3) := by decide +kernel
theorem dX2_clear_24 : decode cX2_clear 24 = .ok (.aload_n 0, 1) := by decide +kernel
theorem dX2_clear_25 : decode cX2_clear 25 = .ok (.iconst 0, 1) := by decide +kernel
theorem dX2_clear_26 : decode cX2_clear 26 = .ok (.putfield 29, 3) := by decide +kernel
theorem dX2_clear_29 : decode cX2_clear 29 = .ok (.aload_n 0, 1) := by decide +kernel
theorem dX2_clear_30 : decode cX2_clear 30 = .ok (.iconst 0, 1) := by decide +kernel
theorem dX2_clear_31 : decode cX2_clear 31 = .ok (.putfield 32, 3) := by decide +kernel
theorem dX2_clear_34 : decode cX2_clear 34 = .ok (.aload_n 0, 1) := by decide +kernel
theorem dX2_clear_35 : decode cX2_clear 35 = .ok (.iconst 0, 1) := by decide +kernel
theorem dX2_clear_36 : decode cX2_clear 36 = .ok (.putfield 35, 3) := by decide +kernel
theorem dX2_clear_39 : decode cX2_clear 39 = .ok (.aload_n 0, 1) := by decide +kernel
theorem dX2_clear_40 : decode cX2_clear 40 = .ok (.iconst 0, 1) := by decide +kernel
theorem dX2_clear_41 : decode cX2_clear 41 = .ok (.putfield 38, 3) := by decide +kernel
theorem dX2_clear_44 : decode cX2_clear 44 = .ok (.iconst 0, 1) := by decide +kernel
theorem dX2_clear_45 : decode cX2_clear 45 = .ok (.istore_n 2, 1) := by decide +kernel
theorem dX2_clear_46 : decode cX2_clear 46 = .ok (.iload_n 2, 1) := by decide +kernel
theorem dX2_clear_47 : decode cX2_clear 47 = .ok (.iconst 4, 1) := by decide +kernel
theorem dX2_clear_48 : decode cX2_clear 48 = .ok (.if_icmp .ge 23, 3) := by decide +kernel
theorem dX2_clear_51 : decode cX2_clear 51 = .ok (.aload_n 0, 1) := by decide +kernel
theorem dX2_clear_52 : decode cX2_clear 52 = .ok (.getfield 9, 3) := by decide +kernel
theorem dX2_clear_55 : decode cX2_clear 55 = .ok (.iload_n 2, 1) := by decide +kernel
theorem dX2_clear_56 : decode cX2_clear 56 = .ok (.iconst 0, 1) := by decide +kernel
theorem dX2_clear_57 : decode cX2_clear 57 = .ok (.iastore, 1) := by decide +kernel
theorem dX2_clear_58 : decode cX2_clear 58 = .ok (.aload_n 0, 1) := by decide +kernel
theorem dX2_clear_59 : decode cX2_clear 59 = .ok (.getfield 15, 3) := by decide +kernel
theorem dX2_clear_62 : decode cX2_clear 62 = .ok (.iload_n 2, 1) := by decide +kernel
theorem dX2_clear_63 : decode cX2_clear 63 = .ok (.iconst 0, 1) := by decide +kernel
theorem dX2_clear_64 : decode cX2_clear 64 = .ok (.bastore, 1) := by decide +kernel
theorem dX2_clear_65 : decode cX2_clear 65 = .ok (.iinc 2 1, 3) := by decide +kernel
theorem dX2_clear_68 : decode cX2_clear 68 = .ok (.goto (-22), 3) := by decide +kernel
theorem dX2_clear_71 : decode cX2_clear 71 = .ok (.return_, 1) := by decide +kernel
theorem dX2_take_0 : decode cX2_take 0 = .ok (.aload_n 1, 1) := by decide +kernel
theorem dX2_take_1 : decode cX2_take 1 = .ok (.getfield 46, 3) := by decide +kernel
theorem dX2_take_4 : decode cX2_take 4 = .ok (.ifCond .ne 9, 3) := by decide +kernel
theorem dX2_take_7 : decode cX2_take 7 = .ok (.aload_n 1, 1) := by decide +kernel
theorem dX2_take_8 : decode cX2_take 8 = .ok (.iconst 1, 1) := by decide +kernel
theorem dX2_take_9 : decode cX2_take 9 = .ok (.putfield 51, 3) := by decide +kernel
theorem dX2_take_12 : decode cX2_take 12 = .ok (.return_, 1) := by decide +kernel
theorem dX2_take_13 : decode cX2_take 13 = .ok (.aload_n 0, 1) := by decide +kernel
theorem dX2_take_14 : decode cX2_take 14 = .ok (.aload_n 1, 1) := by decide +kernel
theorem dX2_take_15 : decode cX2_take 15 = .ok (.invokevirtual 55, 3) := by decide +kernel
theorem dX2_take_18 : decode cX2_take 18 = .ok (.istore_n 2, 1) := by decide +kernel
theorem dX2_take_19 : decode cX2_take 19 = .ok (.iload_n 2, 1) := by decide +kernel
theorem dX2_take_20 : decode cX2_take 20 = .ok (.ifCond .lt 14, 3) := by decide +kernel
theorem dX2_take_23 : decode cX2_take 23 = .ok (.iload_n 2, 1) := by decide +kernel
theorem dX2_take_24 : decode cX2_take 24 = .ok (.iconst 4, 1) := by decide +kernel
theorem dX2_take_25 : decode cX2_take 25 = .ok (.if_icmp .ge 9, 3) := by decide +kernel
theorem dX2_take_28 : decode cX2_take 28 = .ok (.aload_n 0, 1) := by decide +kernel
theorem dX2_take_29 : decode cX2_take 29 = .ok (.aload_n 1, 1) := by decide +kernel
theorem dX2_take_30 : decode cX2_take 30 = .ok (.iload_n 2, 1) := by decide +kernel
theorem dX2_take_31 : decode cX2_take 31 = .ok (.invokevirtual 59, 3) := by decide +kernel
theorem dX2_take_34 : decode cX2_take 34 = .ok (.return_, 1) := by decide +kernel
theorem dX2_bestLane_0 : decode cX2_bestLane 0 = .ok (.iconst (-1), 1) := by decide +kernel
theorem dX2_bestLane_1 : decode cX2_bestLane 1 = .ok (.istore_n 2, 1) := by decide +kernel
theorem dX2_bestLane_2 : decode cX2_bestLane 2 = .ok (.iconst 0, 1) := by decide +kernel
theorem dX2_bestLane_3 : decode cX2_bestLane 3 = .ok (.istore_n 3, 1) := by decide +kernel
theorem dX2_bestLane_4 : decode cX2_bestLane 4 = .ok (.aload_n 0, 1) := by decide +kernel
theorem dX2_bestLane_5 : decode cX2_bestLane 5 = .ok (.getfield 29, 3) := by decide +kernel
theorem dX2_bestLane_8 : decode cX2_bestLane 8 = .ok (.aload_n 1, 1) := by decide +kernel
theorem dX2_bestLane_9 : decode cX2_bestLane 9 = .ok (.getfield 63, 3) := by decide +kernel
theorem dX2_bestLane_12 : decode cX2_bestLane 12 = .ok (.iadd, 1) := by decide +kernel
theorem dX2_bestLane_13 : decode cX2_bestLane 13 = .ok (.aload_n 0, 1) := by decide +kernel
theorem dX2_bestLane_14 : decode cX2_bestLane 14 = .ok (.getfield 26, 3) := by decide +kernel
theorem dX2_bestLane_17 : decode cX2_bestLane 17 = .ok (.if_icmp .gt 18, 3) := by decide +kernel
theorem dX2_bestLane_20 : decode cX2_bestLane 20 = .ok (.aload_n 1, 1) := by decide +kernel
theorem dX2_bestLane_21 : decode cX2_bestLane 21 = .ok (.getfield 64, 3) := by decide +kernel
theorem dX2_bestLane_24 : decode cX2_bestLane 24 = .ok (.ifCond .eq 13, 3) := by decide +kernel
theorem dX2_bestLane_27 : decode cX2_bestLane 27 = .ok (.aload_n 0, 1) := by decide +kernel
theorem dX2_bestLane_28 : decode cX2_bestLane 28 = .ok (.getfield 32, 3) := by decide +kernel
theorem dX2_bestLane_31 : decode cX2_bestLane 31 = .ok (.iconst 2, 1) := by decide +kernel
theorem dX2_bestLane_32 : decode cX2_bestLane 32 = .ok (.if_icmp .lt 5, 3) := by decide +kernel
theorem dX2_bestLane_35 : decode cX2_bestLane 35 = .ok (.iconst (-1), 1) := by decide +kernel
theorem dX2_bestLane_36 : decode cX2_bestLane 36 = .ok (.ireturn, 1) := by decide +kernel
theorem dX2_bestLane_37 : decode cX2_bestLane 37 = .ok (.iconst 0, 1) := by decide +kernel
theorem dX2_bestLane_38 : decode cX2_bestLane 38 = .ok (.istore 4, 2) := by decide +kernel
theorem dX2_bestLane_40 : decode cX2_bestLane 40 = .ok (.iload 4, 2) := by decide +kernel
theorem dX2_bestLane_42 : decode cX2_bestLane 42 = .ok (.aload_n 0, 1) := by decide +kernel
theorem dX2_bestLane_43 : decode cX2_bestLane 43 = .ok (.getfield 19, 3) := by decide +kernel
theorem dX2_bestLane_46 : decode cX2_bestLane 46 = .ok (.if_icmp .ge 111, 3) := by decide +kernel
theorem dX2_bestLane_49 : decode cX2_bestLane 49 = .ok (.iload 4, 2) := by decide +kernel
theorem dX2_bestLane_51 : decode cX2_bestLane 51 = .ok (.iconst 4, 1) := by decide +kernel
theorem dX2_bestLane_52 : decode cX2_bestLane 52 = .ok (.if_icmp .ge 105, 3) := by decide +kernel
theorem dX2_bestLane_55 : decode cX2_bestLane 55 = .ok (.aload_n 0, 1) := by decide +kernel
theorem dX2_bestLane_56 : decode cX2_bestLane 56 = .ok (.getfield 38, 3) := by decide +kernel
theorem dX2_bestLane_59 : decode cX2_bestLane 59 = .ok (.aload_n 0, 1) := by decide +kernel
theorem dX2_bestLane_60 : decode cX2_bestLane 60 = .ok (.iload 4, 2) := by decide +kernel
theorem dX2_bestLane_62 : decode cX2_bestLane 62 = .ok (.aload_n 1, 1) := by decide +kernel
theorem dX2_bestLane_63 : decode cX2_bestLane 63 = .ok (.getfield 63, 3) := by decide +kernel
theorem dX2_bestLane_66 : decode cX2_bestLane 66 = .ok (.invokevirtual 67, 3) := by decide +kernel
theorem dX2_bestLane_69 : decode cX2_bestLane 69 = .ok (.iadd, 1) := by decide +kernel
theorem dX2_bestLane_70 : decode cX2_bestLane 70 = .ok (.invokestatic 71, 3) := by decide +kernel
theorem dX2_bestLane_73 : decode cX2_bestLane 73 = .ok (.istore 5, 2) := by decide +kernel
theorem dX2_bestLane_75 : decode cX2_bestLane 75 = .ok (.aload_n 0, 1) := by decide +kernel
theorem dX2_bestLane_76 : decode cX2_bestLane 76 = .ok (.getfield 9, 3) := by decide +kernel
theorem dX2_bestLane_79 : decode cX2_bestLane 79 = .ok (.iload 4, 2) := by decide +kernel
theorem dX2_bestLane_81 : decode cX2_bestLane 81 = .ok (.iaload, 1) := by decide +kernel
theorem dX2_bestLane_82 : decode cX2_bestLane 82 = .ok (.aload_n 1, 1) := by decide +kernel
theorem dX2_bestLane_83 : decode cX2_bestLane 83 = .ok (.getfield 77, 3) := by decide +kernel
theorem dX2_bestLane_86 : decode cX2_bestLane 86 = .ok (.iadd, 1) := by decide +kernel
theorem dX2_bestLane_87 : decode cX2_bestLane 87 = .ok (.aload_n 0, 1) := by decide +kernel
theorem dX2_bestLane_88 : decode cX2_bestLane 88 = .ok (.getfield 23, 3) := by decide +kernel
theorem dX2_bestLane_91 : decode cX2_bestLane 91 = .ok (.if_icmp .gt 7, 3) := by decide +kernel
theorem dX2_bestLane_94 : decode cX2_bestLane 94 = .ok (.iconst 1, 1) := by decide +kernel
theorem dX2_bestLane_95 : decode cX2_bestLane 95 = .ok (.goto 4, 3) := by decide +kernel
theorem dX2_bestLane_98 : decode cX2_bestLane 98 = .ok (.iconst 0, 1) := by decide +kernel
theorem dX2_bestLane_99 : decode cX2_bestLane 99 = .ok (.istore 6, 2) := by decide +kernel
theorem dX2_bestLane_101 : decode cX2_bestLane 101 = .ok (.aload_n 1, 1) := by decide +kernel
theorem dX2_bestLane_102 : decode cX2_bestLane 102 = .ok (.getfield 64, 3) := by decide +kernel
theorem dX2_bestLane_105 : decode cX2_bestLane 105 = .ok (.ifCond .eq 12, 3) := by decide +kernel
theorem dX2_bestLane_108 : decode cX2_bestLane 108 = .ok (.aload_n 0, 1) := by decide +kernel
theorem dX2_bestLane_109 : decode cX2_bestLane 109 = .ok (.iload 4, 2) := by decide +kernel
theorem dX2_bestLane_111 : decode cX2_bestLane 111 = .ok (.invokevirtual 80, 3) := by decide +kernel
theorem dX2_bestLane_114 : decode cX2_bestLane 114 = .ok (.ifCond .ne 7, 3) := by decide +kernel
theorem dX2_bestLane_117 : decode cX2_bestLane 117 = .ok (.iconst 1, 1) := by decide +kernel
theorem dX2_bestLane_118 : decode cX2_bestLane 118 = .ok (.goto 4, 3) := by decide +kernel
theorem dX2_bestLane_121 : decode cX2_bestLane 121 = .ok (.iconst 0, 1) := by decide +kernel
theorem dX2_bestLane_122 : decode cX2_bestLane 122 = .ok (.istore 7, 2) := by decide +kernel
theorem dX2_bestLane_124 : decode cX2_bestLane 124 = .ok (.iload 6, 2) := by decide +kernel
theorem dX2_bestLane_126 : decode cX2_bestLane 126 = .ok (.ifCond .eq 25, 3) := by decide +kernel
theorem dX2_bestLane_129 : decode cX2_bestLane 129 = .ok (.iload 7, 2) := by decide +kernel
theorem dX2_bestLane_131 : decode cX2_bestLane 131 = .ok (.ifCond .eq 20, 3) := by decide +kernel
theorem dX2_bestLane_134 : decode cX2_bestLane 134 = .ok (.iload_n 2, 1) := by decide +kernel
theorem dX2_bestLane_135 : decode cX2_bestLane 135 = .ok (.iconst (-1), 1) := by decide +kernel
theorem dX2_bestLane_136 : decode cX2_bestLane 136 = .ok (.if_icmp .eq 9, 3) := by decide +kernel
theorem dX2_bestLane_139 : decode cX2_bestLane 139 = .ok (.iload 5, 2) := by decide +kernel
theorem dX2_bestLane_141 : decode cX2_bestLane 141 = .ok (.iload_n 3, 1) := by decide +kernel
theorem dX2_bestLane_142 : decode cX2_bestLane 142 = .ok (.if_icmp .ge 9, 3) := by decide +kernel
theorem dX2_bestLane_145 : decode cX2_bestLane 145 = .ok (.iload 4, 2) := by decide +kernel
theorem dX2_bestLane_147 : decode cX2_bestLane 147 = .ok (.istore_n 2, 1) := by decide +kernel
theorem dX2_bestLane_148 : decode cX2_bestLane 148 = .ok (.iload 5, 2) := by decide +kernel
theorem dX2_bestLane_150 : decode cX2_bestLane 150 = .ok (.istore_n 3, 1) := by decide +kernel
theorem dX2_bestLane_151 : decode cX2_bestLane 151 = .ok (.iinc 4 1, 3) := by decide +kernel
theorem dX2_bestLane_154 : decode cX2_bestLane 154 = .ok (.goto (-114), 3) := by decide +kernel
theorem dX2_bestLane_157 : decode cX2_bestLane 157 = .ok (.iload_n 2, 1) := by decide +kernel
theorem dX2_bestLane_158 : decode cX2_bestLane 158 = .ok (.ireturn, 1) := by decide +kernel
theorem dX2_isNearDangerous_0 : decode cX2_isNearDangerous 0 = .ok (.iload_n 1, 1) := by decide +kernel
theorem dX2_isNearDangerous_1 : decode cX2_isNearDangerous 1 = .ok (.iconst 1, 1) := by decide +kernel
theorem dX2_isNearDangerous_2 : decode cX2_isNearDangerous 2 = .ok (.isub, 1) := by decide +kernel
theorem dX2_isNearDangerous_3 : decode cX2_isNearDangerous 3 = .ok (.iconst 0, 1) := by decide +kernel
theorem dX2_isNearDangerous_4 : decode cX2_isNearDangerous 4 = .ok (.invokestatic 84, 3) := by decide +kernel
theorem dX2_isNearDangerous_7 : decode cX2_isNearDangerous 7 = .ok (.istore_n 2, 1) := by decide +kernel
theorem dX2_isNearDangerous_8 : decode cX2_isNearDangerous 8 = .ok (.iload_n 2, 1) := by decide +kernel
theorem dX2_isNearDangerous_9 : decode cX2_isNearDangerous 9 = .ok (.iload_n 1, 1) := by decide +kernel
theorem dX2_isNearDangerous_10 : decode cX2_isNearDangerous 10 = .ok (.iconst 1, 1) := by decide +kernel
theorem dX2_isNearDangerous_11 : decode cX2_isNearDangerous 11 = .ok (.iadd, 1) := by decide +kernel
theorem dX2_isNearDangerous_12 : decode cX2_isNearDangerous 12 = .ok (.if_icmp .gt 25, 3) := by decide +kernel
theorem dX2_isNearDangerous_15 : decode cX2_isNearDangerous 15 = .ok (.iload_n 2, 1) := by decide +kernel
theorem dX2_isNearDangerous_16 : decode cX2_isNearDangerous 16 = .ok (.iconst 4, 1) := by decide +kernel
theorem dX2_isNearDangerous_17 : decode cX2_isNearDangerous 17 = .ok (.if_icmp .ge 20, 3) := by decide +kernel
theorem dX2_isNearDangerous_20 : decode cX2_isNearDangerous 20 = .ok (.aload_n 0, 1) := by decide +kernel
theorem dX2_isNearDangerous_21 : decode cX2_isNearDangerous 21 = .ok (.getfield 15, 3) := by decide +kernel
theorem dX2_isNearDangerous_24 : decode cX2_isNearDangerous 24 = .ok (.iload_n 2, 1) := by decide +kernel
theorem dX2_isNearDangerous_25 : decode cX2_isNearDangerous 25 = .ok (.baload, 1) := by decide +kernel
theorem dX2_isNearDangerous_26 : decode cX2_isNearDangerous 26 = .ok (.ifCond .eq 5, 3) := by decide +kernel
theorem dX2_isNearDangerous_29 : decode cX2_isNearDangerous 29 = .ok (.iconst 1, 1) := by decide +kernel
theorem dX2_isNearDangerous_30 : decode cX2_isNearDangerous 30 = .ok (.ireturn, 1) := by decide +kernel
theorem dX2_isNearDangerous_31 : decode cX2_isNearDangerous 31 = .ok (.iinc 2 1, 3) := by decide +kernel
theorem dX2_isNearDangerous_34 : decode cX2_isNearDangerous 34 = .ok (.goto (-26), 3) := by decide +kernel
theorem dX2_isNearDangerous_37 : decode cX2_isNearDangerous 37 = .ok (.iconst 0, 1) := by decide +kernel
theorem dX2_isNearDangerous_38 : decode cX2_isNearDangerous 38 = .ok (.ireturn, 1) := by decide +kernel
theorem dX2_put_0 : decode cX2_put 0 = .ok (.iload_n 2, 1) := by decide +kernel
theorem dX2_put_1 : decode cX2_put 1 = .ok (.ifCond .lt 8, 3) := by decide +kernel
theorem dX2_put_4 : decode cX2_put 4 = .ok (.iload_n 2, 1) := by decide +kernel
theorem dX2_put_5 : decode cX2_put 5 = .ok (.iconst 4, 1) := by decide +kernel
theorem dX2_put_6 : decode cX2_put 6 = .ok (.if_icmp .lt 4, 3) := by decide +kernel
theorem dX2_put_9 : decode cX2_put 9 = .ok (.return_, 1) := by decide +kernel
theorem dX2_put_10 : decode cX2_put 10 = .ok (.aload_n 1, 1) := by decide +kernel
theorem dX2_put_11 : decode cX2_put 11 = .ok (.iconst 1, 1) := by decide +kernel
theorem dX2_put_12 : decode cX2_put 12 = .ok (.putfield 51, 3) := by decide +kernel
theorem dX2_put_15 : decode cX2_put 15 = .ok (.aload_n 1, 1) := by decide +kernel
theorem dX2_put_16 : decode cX2_put 16 = .ok (.iload_n 2, 1) := by decide +kernel
theorem dX2_put_17 : decode cX2_put 17 = .ok (.putfield 87, 3) := by decide +kernel
theorem dX2_put_20 : decode cX2_put 20 = .ok (.aload_n 1, 1) := by decide +kernel
theorem dX2_put_21 : decode cX2_put 21 = .ok (.aload_n 0, 1) := by decide +kernel
theorem dX2_put_22 : decode cX2_put 22 = .ok (.getfield 35, 3) := by decide +kernel
theorem dX2_put_25 : decode cX2_put 25 = .ok (.putfield 90, 3) := by decide +kernel
theorem dX2_put_28 : decode cX2_put 28 = .ok (.aload_n 0, 1) := by decide +kernel
theorem dX2_put_29 : decode cX2_put 29 = .ok (.dup, 1) := by decide +kernel
theorem dX2_put_30 : decode cX2_put 30 = .ok (.getfield 35, 3) := by decide +kernel
theorem dX2_put_33 : decode cX2_put 33 = .ok (.iconst 1, 1) := by decide +kernel
theorem dX2_put_34 : decode cX2_put 34 = .ok (.iadd, 1) := by decide +kernel
theorem dX2_put_35 : decode cX2_put 35 = .ok (.putfield 35, 3) := by decide +kernel
theorem dX2_put_38 : decode cX2_put 38 = .ok (.aload_n 0, 1) := by decide +kernel
theorem dX2_put_39 : decode cX2_put 39 = .ok (.getfield 9, 3) := by decide +kernel
theorem dX2_put_42 : decode cX2_put 42 = .ok (.iload_n 2, 1) := by decide +kernel
theorem dX2_put_43 : decode cX2_put 43 = .ok (.dup2, 1) := by decide +kernel
theorem dX2_put_44 : decode cX2_put 44 = .ok (.iaload, 1) := by decide +kernel
theorem dX2_put_45 : decode cX2_put 45 = .ok (.aload_n 1, 1) := by decide +kernel
theorem dX2_put_46 : decode cX2_put 46 = .ok (.getfield 77, 3) := by decide +kernel
theorem dX2_put_49 : decode cX2_put 49 = .ok (.iadd, 1) := by decide +kernel
theorem dX2_put_50 : decode cX2_put 50 = .ok (.iastore, 1) := by decide +kernel
theorem dX2_put_51 : decode cX2_put 51 = .ok (.aload_n 0, 1) := by decide +kernel
theorem dX2_put_52 : decode cX2_put 52 = .ok (.dup, 1) := by decide +kernel
theorem dX2_put_53 : decode cX2_put 53 = .ok (.getfield 29, 3) := by decide +kernel
theorem dX2_put_56 : decode cX2_put 56 = .ok (.aload_n 1, 1) := by decide +kernel
theorem dX2_put_57 : decode cX2_put 57 = .ok (.getfield 63, 3) := by decide +kernel
theorem dX2_put_60 : decode cX2_put 60 = .ok (.iadd, 1) := by decide +kernel
theorem dX2_put_61 : decode cX2_put 61 = .ok (.putfield 29, 3) := by decide +kernel
theorem dX2_put_64 : decode cX2_put 64 = .ok (.aload_n 0, 1) := by decide +kernel
theorem dX2_put_65 : decode cX2_put 65 = .ok (.dup, 1) := by decide +kernel
theorem dX2_put_66 : decode cX2_put 66 = .ok (.getfield 38, 3) := by decide +kernel
theorem dX2_put_69 : decode cX2_put 69 = .ok (.aload_n 0, 1) := by decide +kernel
theorem dX2_put_70 : decode cX2_put 70 = .ok (.iload_n 2, 1) := by decide +kernel
theorem dX2_put_71 : decode cX2_put 71 = .ok (.aload_n 1, 1) := by decide +kernel
theorem dX2_put_72 : decode cX2_put 72 = .ok (.getfield 63, 3) := by decide +kernel
theorem dX2_put_75 : decode cX2_put 75 = .ok (.invokevirtual 67, 3) := by decide +kernel
theorem dX2_put_78 : decode cX2_put 78 = .ok (.iadd, 1) := by decide +kernel
theorem dX2_put_79 : decode cX2_put 79 = .ok (.putfield 38, 3) := by decide +kernel
theorem dX2_put_82 : decode cX2_put 82 = .ok (.aload_n 1, 1) := by decide +kernel
theorem dX2_put_83 : decode cX2_put 83 = .ok (.getfield 64, 3) := by decide +kernel
theorem dX2_put_86 : decode cX2_put 86 = .ok (.ifCond .eq 20, 3) := by decide +kernel
theorem dX2_put_89 : decode cX2_put 89 = .ok (.aload_n 0, 1) := by decide +kernel
theorem dX2_put_90 : decode cX2_put 90 = .ok (.getfield 15, 3) := by decide +kernel
theorem dX2_put_93 : decode cX2_put 93 = .ok (.iload_n 2, 1) := by decide +kernel
theorem dX2_put_94 : decode cX2_put 94 = .ok (.iconst 1, 1) := by decide +kernel
theorem dX2_put_95 : decode cX2_put 95 = .ok (.bastore, 1) := by decide +kernel
theorem dX2_put_96 : decode cX2_put 96 = .ok (.aload_n 0, 1) := by decide +kernel
theorem dX2_put_97 : decode cX2_put 97 = .ok (.dup, 1) := by decide +kernel
theorem dX2_put_98 : decode cX2_put 98 = .ok (.getfield 32, 3) := by decide +kernel
theorem dX2_put_101 : decode cX2_put 101 = .ok (.iconst 1, 1) := by decide +kernel
theorem dX2_put_102 : decode cX2_put 102 = .ok (.iadd, 1) := by decide +kernel
theorem dX2_put_103 : decode cX2_put 103 = .ok (.putfield 32, 3) := by decide +kernel
theorem dX2_put_106 : decode cX2_put 106 = .ok (.return_, 1) := by decide +kernel
theorem dX2_putOff_0 : decode cX2_putOff 0 = .ok (.aload_n 0, 1) := by decide +kernel
theorem dX2_putOff_1 : decode cX2_putOff 1 = .ok (.dup, 1) := by decide +kernel
theorem dX2_putOff_2 : decode cX2_putOff 2 = .ok (.getfield 38, 3) := by decide +kernel
theorem dX2_putOff_5 : decode cX2_putOff 5 = .ok (.aload_n 0, 1) := by decide +kernel
theorem dX2_putOff_6 : decode cX2_putOff 6 = .ok (.aload_n 1, 1) := by decide +kernel
theorem dX2_putOff_7 : decode cX2_putOff 7 = .ok (.getfield 87, 3) := by decide +kernel
theorem dX2_putOff_10 : decode cX2_putOff 10 = .ok (.aload_n 1, 1) := by decide +kernel
theorem dX2_putOff_11 : decode cX2_putOff 11 = .ok (.getfield 63, 3) := by decide +kernel
theorem dX2_putOff_14 : decode cX2_putOff 14 = .ok (.invokevirtual 67, 3) := by decide +kernel
theorem dX2_putOff_17 : decode cX2_putOff 17 = .ok (.isub, 1) := by decide +kernel
theorem dX2_putOff_18 : decode cX2_putOff 18 = .ok (.putfield 38, 3) := by decide +kernel
theorem dX2_putOff_21 : decode cX2_putOff 21 = .ok (.aload_n 1, 1) := by decide +kernel
theorem dX2_putOff_22 : decode cX2_putOff 22 = .ok (.iconst 0, 1) := by decide +kernel
theorem dX2_putOff_23 : decode cX2_putOff 23 = .ok (.putfield 51, 3) := by decide +kernel
theorem dX2_putOff_26 : decode cX2_putOff 26 = .ok (.aload_n 1, 1) := by decide +kernel
theorem dX2_putOff_27 : decode cX2_putOff 27 = .ok (.iconst (-1), 1) := by decide +kernel
theorem dX2_putOff_28 : decode cX2_putOff 28 = .ok (.putfield 87, 3) := by decide +kernel
theorem dX2_putOff_31 : decode cX2_putOff 31 = .ok (.return_, 1) := by decide +kernel
theorem dX2_isOnHeavierSide_0 : decode cX2_isOnHeavierSide 0 = .ok (.aload_n 1, 1) := by decide +kernel
theorem dX2_isOnHeavierSide_1 : decode cX2_isOnHeavierSide 1 = .ok (.getfield 87, 3) := by decide +kernel
theorem dX2_isOnHeavierSide_4 : decode cX2_isOnHeavierSide 4 = .ok (.iconst (-1), 1) := by decide +kernel
theorem dX2_isOnHeavierSide_5 : decode cX2_isOnHeavierSide 5 = .ok (.if_icmp .ne 7, 3) := by decide +kernel
theorem dX2_isOnHeavierSide_8 : decode cX2_isOnHeavierSide 8 = .ok (.iconst 0, 1) := by decide +kernel
theorem dX2_isOnHeavierSide_9 : decode cX2_isOnHeavierSide 9 = .ok (.goto 15, 3) := by decide +kernel
theorem dX2_isOnHeavierSide_12 : decode cX2_isOnHeavierSide 12 = .ok (.aload_n 0, 1) := by decide +kernel
theorem dX2_isOnHeavierSide_13 : decode cX2_isOnHeavierSide 13 = .ok (.aload_n 1, 1) := by decide +kernel
theorem dX2_isOnHeavierSide_14 : decode cX2_isOnHeavierSide 14 = .ok (.getfield 87, 3) := by decide +kernel
theorem dX2_isOnHeavierSide_17 : decode cX2_isOnHeavierSide 17 = .ok (.aload_n 1, 1) := by decide +kernel
theorem dX2_isOnHeavierSide_18 : decode cX2_isOnHeavierSide 18 = .ok (.getfield 63, 3) := by decide +kernel
theorem dX2_isOnHeavierSide_21 : decode cX2_isOnHeavierSide 21 = .ok (.invokevirtual 67, 3) := by decide +kernel
theorem dX2_isOnHeavierSide_24 : decode cX2_isOnHeavierSide 24 = .ok (.istore_n 2, 1) := by decide +kernel
theorem dX2_isOnHeavierSide_25 : decode cX2_isOnHeavierSide 25 = .ok (.iload_n 2, 1) := by decide +kernel
theorem dX2_isOnHeavierSide_26 : decode cX2_isOnHeavierSide 26 = .ok (.ifCond .le 10, 3) := by decide +kernel
theorem dX2_isOnHeavierSide_29 : decode cX2_isOnHeavierSide 29 = .ok (.aload_n 0, 1) := by decide +kernel
theorem dX2_isOnHeavierSide_30 : decode cX2_isOnHeavierSide 30 = .ok (.getfield 38, 3) := by decide +kernel
theorem dX2_isOnHeavierSide_33 : decode cX2_isOnHeavierSide 33 = .ok (.ifCond .gt 14, 3) := by decide +kernel
theorem dX2_isOnHeavierSide_36 : decode cX2_isOnHeavierSide 36 = .ok (.iload_n 2, 1) := by decide +kernel
theorem dX2_isOnHeavierSide_37 : decode cX2_isOnHeavierSide 37 = .ok (.ifCond .ge 14, 3) := by decide +kernel
theorem dX2_isOnHeavierSide_40 : decode cX2_isOnHeavierSide 40 = .ok (.aload_n 0, 1) := by decide +kernel
theorem dX2_isOnHeavierSide_41 : decode cX2_isOnHeavierSide 41 = .ok (.getfield 38, 3) := by decide +kernel
theorem dX2_isOnHeavierSide_44 : decode cX2_isOnHeavierSide 44 = .ok (.ifCond .ge 7, 3) := by decide +kernel
theorem dX2_isOnHeavierSide_47 : decode cX2_isOnHeavierSide 47 = .ok (.iconst 1, 1) := by decide +kernel
theorem dX2_isOnHeavierSide_48 : decode cX2_isOnHeavierSide 48 = .ok (.goto 4, 3) := by decide +kernel
theorem dX2_isOnHeavierSide_51 : decode cX2_isOnHeavierSide 51 = .ok (.iconst 0, 1) := by decide +kernel
theorem dX2_isOnHeavierSide_52 : decode cX2_isOnHeavierSide 52 = .ok (.ireturn, 1) := by decide +kernel
theorem dX2_leanOf_0 : decode cX2_leanOf 0 = .ok (.iconst 2, 1) := by decide +kernel
theorem dX2_leanOf_1 : decode cX2_leanOf 1 = .ok (.iload_n 1, 1) := by decide +kernel
theorem dX2_leanOf_2 : decode cX2_leanOf 2 = .ok (.imul, 1) := by decide +kernel
theorem dX2_leanOf_3 : decode cX2_leanOf 3 = .ok (.aload_n 0, 1) := by decide +kernel
theorem dX2_leanOf_4 : decode cX2_leanOf 4 = .ok (.getfield 19, 3) := by decide +kernel
theorem dX2_leanOf_7 : decode cX2_leanOf 7 = .ok (.iconst 1, 1) := by decide +kernel
theorem dX2_leanOf_8 : decode cX2_leanOf 8 = .ok (.isub, 1) := by decide +kernel
theorem dX2_leanOf_9 : decode cX2_leanOf 9 = .ok (.if_icmp .ge 5, 3) := by decide +kernel
theorem dX2_leanOf_12 : decode cX2_leanOf 12 = .ok (.iload_n 2, 1) := by decide +kernel
theorem dX2_leanOf_13 : decode cX2_leanOf 13 = .ok (.ireturn, 1) := by decide +kernel
theorem dX2_leanOf_14 : decode cX2_leanOf 14 = .ok (.iconst 2, 1) := by decide +kernel
theorem dX2_leanOf_15 : decode cX2_leanOf 15 = .ok (.iload_n 1, 1) := by decide +kernel
theorem dX2_leanOf_16 : decode cX2_leanOf 16 = .ok (.imul, 1) := by decide +kernel
theorem dX2_leanOf_17 : decode cX2_leanOf 17 = .ok (.aload_n 0, 1) := by decide +kernel
theorem dX2_leanOf_18 : decode cX2_leanOf 18 = .ok (.getfield 19, 3) := by decide +kernel
theorem dX2_leanOf_21 : decode cX2_leanOf 21 = .ok (.iconst 1, 1) := by decide +kernel
theorem dX2_leanOf_22 : decode cX2_leanOf 22 = .ok (.isub, 1) := by decide +kernel
theorem dX2_leanOf_23 : decode cX2_leanOf 23 = .ok (.if_icmp .le 8, 3) := by decide +kernel
theorem dX2_leanOf_26 : decode cX2_leanOf 26 = .ok (.iload_n 2, 1) := by decide +kernel
theorem dX2_leanOf_27 : decode cX2_leanOf 27 = .ok (.ineg, 1) := by decide +kernel
theorem dX2_leanOf_28 : decode cX2_leanOf 28 = .ok (.goto 4, 3) := by decide +kernel
theorem dX2_leanOf_31 : decode cX2_leanOf 31 = .ok (.iconst 0, 1) := by decide +kernel
theorem dX2_leanOf_32 : decode cX2_leanOf 32 = .ok (.ireturn, 1) := by decide +kernel
theorem dX3_init_0 : decode cX3_init 0 = .ok (.aload_n 0, 1) := by decide +kernel
theorem dX3_init_1 : decode cX3_init 1 = .ok (.invokespecial 3, 3) := by decide +kernel
theorem dX3_init_4 : decode cX3_init 4 = .ok (.aload_n 0, 1) := by decide +kernel
theorem dX3_init_5 : decode cX3_init 5 = .ok (.iconst (-1), 1) := by decide +kernel
theorem dX3_init_6 : decode cX3_init 6 = .ok (.putfield 9, 3) := by decide +kernel
theorem dX3_init_9 : decode cX3_init 9 = .ok (.aload_n 0, 1) := by decide +kernel
theorem dX3_init_10 : decode cX3_init 10 = .ok (.iconst 0, 1) := by decide +kernel
theorem dX3_init_11 : decode cX3_init 11 = .ok (.putfield 15, 3) := by decide +kernel
theorem dX3_init_14 : decode cX3_init 14 = .ok (.aload_n 0, 1) := by decide +kernel
theorem dX3_init_15 : decode cX3_init 15 = .ok (.iconst 0, 1) := by decide +kernel
theorem dX3_init_16 : decode cX3_init 16 = .ok (.putfield 18, 3) := by decide +kernel
theorem dX3_init_19 : decode cX3_init 19 = .ok (.aload_n 0, 1) := by decide +kernel
theorem dX3_init_20 : decode cX3_init 20 = .ok (.iconst 0, 1) := by decide +kernel
theorem dX3_init_21 : decode cX3_init 21 = .ok (.putfield 21, 3) := by decide +kernel
theorem dX3_init_24 : decode cX3_init 24 = .ok (.aload_n 0, 1) := by decide +kernel
theorem dX3_init_25 : decode cX3_init 25 = .ok (.iconst 0, 1) := by decide +kernel
theorem dX3_init_26 : decode cX3_init 26 = .ok (.putfield 24, 3) := by decide +kernel
theorem dX3_init_29 : decode cX3_init 29 = .ok (.aload_n 0, 1) := by decide +kernel
theorem dX3_init_30 : decode cX3_init 30 = .ok (.iconst 0, 1) := by decide +kernel
theorem dX3_init_31 : decode cX3_init 31 = .ok (.putfield 27, 3) := by decide +kernel
theorem dX3_init_34 : decode cX3_init 34 = .ok (.aload_n 0, 1) := by decide +kernel
theorem dX3_init_35 : decode cX3_init 35 = .ok (.iconst 0, 1) := by decide +kernel
theorem dX3_init_36 : decode cX3_init 36 = .ok (.putfield 30, 3) := by decide +kernel
theorem dX3_init_39 : decode cX3_init 39 = .ok (.aload_n 0, 1) := by decide +kernel
theorem dX3_init_40 : decode cX3_init 40 = .ok (.iconst 0, 1) := by decide +kernel
theorem dX3_init_41 : decode cX3_init 41 = .ok (.putfield 33, 3) := by decide +kernel
theorem dX3_init_44 : decode cX3_init 44 = .ok (.aload_n 0, 1) := by decide +kernel
theorem dX3_init_45 : decode cX3_init 45 = .ok (.iconst (-1), 1) := by decide +kernel
theorem dX3_init_46 : decode cX3_init 46 = .ok (.putfield 36, 3) := by decide +kernel
theorem dX3_init_49 : decode cX3_init 49 = .ok (.aload_n 0, 1) := by decide +kernel
theorem dX3_init_50 : decode cX3_init 50 = .ok (.iconst 0, 1) := by decide +kernel
theorem dX3_init_51 : decode cX3_init 51 = .ok (.putfield 39, 3) := by decide +kernel
theorem dX3_init_54 : decode cX3_init 54 = .ok (.aload_n 0, 1) := by decide +kernel
theorem dX3_init_55 : decode cX3_init 55 = .ok (.iconst 0, 1) := by decide +kernel
theorem dX3_init_56 : decode cX3_init 56 = .ok (.putfield 42, 3) := by decide +kernel
theorem dX3_init_59 : decode cX3_init 59 = .ok (.return_, 1) := by decide +kernel
theorem dX4_init_0 : decode cX4_init 0 = .ok (.aload_n 0, 1) := by decide +kernel
theorem dX4_init_1 : decode cX4_init 1 = .ok (.invokespecial 1, 3) := by decide +kernel
theorem dX4_init_4 : decode cX4_init 4 = .ok (.aload_n 0, 1) := by decide +kernel
theorem dX4_init_5 : decode cX4_init 5 = .ok (.iconst 0, 1) := by decide +kernel
theorem dX4_init_6 : decode cX4_init 6 = .ok (.putfield 7, 3) := by decide +kernel
theorem dX4_init_9 : decode cX4_init 9 = .ok (.aload_n 0, 1) := by decide +kernel
theorem dX4_init_10 : decode cX4_init 10 = .ok (.iconst 0, 1) := by decide +kernel
theorem dX4_init_11 : decode cX4_init 11 = .ok (.putfield 13, 3) := by decide +kernel
theorem dX4_init_14 : decode cX4_init 14 = .ok (.aload_n 0, 1) := by decide +kernel
theorem dX4_init_15 : decode cX4_init 15 = .ok (.iconst 0, 1) := by decide +kernel
theorem dX4_init_16 : decode cX4_init 16 = .ok (.putfield 16, 3) := by decide +kernel
theorem dX4_init_19 : decode cX4_init 19 = .ok (.aload_n 0, 1) := by decide +kernel
theorem dX4_init_20 : decode cX4_init 20 = .ok (.iconst 0, 1) := by decide +kernel
theorem dX4_init_21 : decode cX4_init 21 = .ok (.putfield 19, 3) := by decide +kernel
theorem dX4_init_24 : decode cX4_init 24 = .ok (.aload_n 0, 1) := by decide +kernel
theorem dX4_init_25 : decode cX4_init 25 = .ok (.iconst 0, 1) := by decide +kernel
theorem dX4_init_26 : decode cX4_init 26 = .ok (.putfield 22, 3) := by decide +kernel
theorem dX4_init_29 : decode cX4_init 29 = .ok (.aload_n 0, 1) := by decide +kernel
theorem dX4_init_30 : decode cX4_init 30 = .ok (.iconst 0, 1) := by decide +kernel
theorem dX4_init_31 : decode cX4_init 31 = .ok (.putfield 25, 3) := by decide +kernel
theorem dX4_init_34 : decode cX4_init 34 = .ok (.aload_n 0, 1) := by decide +kernel
theorem dX4_init_35 : decode cX4_init 35 = .ok (.iconst 0, 1) := by decide +kernel
theorem dX4_init_36 : decode cX4_init 36 = .ok (.putfield 28, 3) := by decide +kernel
theorem dX4_init_39 : decode cX4_init 39 = .ok (.aload_n 0, 1) := by decide +kernel
theorem dX4_init_40 : decode cX4_init 40 = .ok (.new 31, 3) := by decide +kernel
theorem dX4_init_43 : decode cX4_init 43 = .ok (.dup, 1) := by decide +kernel
theorem dX4_init_44 : decode cX4_init 44 = .ok (.invokespecial 33, 3) := by decide +kernel
theorem dX4_init_47 : decode cX4_init 47 = .ok (.putfield 34, 3) := by decide +kernel
theorem dX4_init_50 : decode cX4_init 50 = .ok (.return_, 1) := by decide +kernel
theorem dX4_hoursFor_0 : decode cX4_hoursFor 0 = .ok (.aload_n 0, 1) := by decide +kernel
theorem dX4_hoursFor_1 : decode cX4_hoursFor 1 = .ok (.getfield 25, 3) := by decide +kernel
theorem dX4_hoursFor_4 : decode cX4_hoursFor 4 = .ok (.iconst 1, 1) := by decide +kernel
theorem dX4_hoursFor_5 : decode cX4_hoursFor 5 = .ok (.if_icmp .ge 7, 3) := by decide +kernel
theorem dX4_hoursFor_8 : decode cX4_hoursFor 8 = .ok (.iconst 0, 1) := by decide +kernel
theorem dX4_hoursFor_9 : decode cX4_hoursFor 9 = .ok (.goto 16, 3) := by decide +kernel
theorem dX4_hoursFor_12 : decode cX4_hoursFor 12 = .ok (.iload_n 1, 1) := by decide +kernel
theorem dX4_hoursFor_13 : decode cX4_hoursFor 13 = .ok (.aload_n 0, 1) := by decide +kernel
theorem dX4_hoursFor_14 : decode cX4_hoursFor 14 = .ok (.getfield 25, 3) := by decide +kernel
theorem dX4_hoursFor_17 : decode cX4_hoursFor 17 = .ok (.iadd, 1) := by decide +kernel
theorem dX4_hoursFor_18 : decode cX4_hoursFor 18 = .ok (.iconst 1, 1) := by decide +kernel
theorem dX4_hoursFor_19 : decode cX4_hoursFor 19 = .ok (.isub, 1) := by decide +kernel
theorem dX4_hoursFor_20 : decode cX4_hoursFor 20 = .ok (.aload_n 0, 1) := by decide +kernel
theorem dX4_hoursFor_21 : decode cX4_hoursFor 21 = .ok (.getfield 25, 3) := by decide +kernel
theorem dX4_hoursFor_24 : decode cX4_hoursFor 24 = .ok (.idiv, 1) := by decide +kernel
theorem dX4_hoursFor_25 : decode cX4_hoursFor 25 = .ok (.ireturn, 1) := by decide +kernel
theorem dX4_burns_0 : decode cX4_burns 0 = .ok (.iload_n 1, 1) := by decide +kernel
theorem dX4_burns_1 : decode cX4_burns 1 = .ok (.i2f, 1) := by decide +kernel
theorem dX4_burns_2 : decode cX4_burns 2 = .ok (.aload_n 0, 1) := by decide +kernel
theorem dX4_burns_3 : decode cX4_burns 3 = .ok (.getfield 25, 3) := by decide +kernel
theorem dX4_burns_6 : decode cX4_burns 6 = .ok (.i2f, 1) := by decide +kernel
theorem dX4_burns_7 : decode cX4_burns 7 = .ok (.fmul, 1) := by decide +kernel
theorem dX4_burns_8 : decode cX4_burns 8 = .ok (.aload_n 0, 1) := by decide +kernel
theorem dX4_burns_9 : decode cX4_burns 9 = .ok (.getfield 25, 3) := by decide +kernel
theorem dX4_burns_12 : decode cX4_burns 12 = .ok (.i2f, 1) := by decide +kernel
theorem dX4_burns_13 : decode cX4_burns 13 = .ok (.fmul, 1) := by decide +kernel
theorem dX4_burns_14 : decode cX4_burns 14 = .ok (.ldc 38, 2) := by decide +kernel
theorem dX4_burns_16 : decode cX4_burns 16 = .ok (.fdiv, 1) := by decide +kernel
theorem dX4_burns_17 : decode cX4_burns 17 = .ok (.f2i, 1) := by decide +kernel
theorem dX4_burns_18 : decode cX4_burns 18 = .ok (.ireturn, 1) := by decide +kernel
theorem dX5_init_0 : decode cX5_init 0 = .ok (.aload_n 0, 1) := by decide +kernel
theorem dX5_init_1 : decode cX5_init 1 = .ok (.invokespecial 3, 3) := by decide +kernel
theorem dX5_init_4 : decode cX5_init 4 = .ok (.aload_n 0, 1) := by decide +kernel
theorem dX5_init_5 : decode cX5_init 5 = .ok (.iconst 0, 1) := by decide +kernel
theorem dX5_init_6 : decode cX5_init 6 = .ok (.putfield 9, 3) := by decide +kernel
theorem dX5_init_9 : decode cX5_init 9 = .ok (.aload_n 0, 1) := by decide +kernel
theorem dX5_init_10 : decode cX5_init 10 = .ok (.iconst (-1), 1) := by decide +kernel
theorem dX5_init_11 : decode cX5_init 11 = .ok (.putfield 15, 3) := by decide +kernel
theorem dX5_init_14 : decode cX5_init 14 = .ok (.return_, 1) := by decide +kernel
theorem dX5_tell_0 : decode cX5_tell 0 = .ok (.aload_n 0, 1) := by decide +kernel
theorem dX5_tell_1 : decode cX5_tell 1 = .ok (.iload_n 1, 1) := by decide +kernel
theorem dX5_tell_2 : decode cX5_tell 2 = .ok (.putfield 9, 3) := by decide +kernel
theorem dX5_tell_5 : decode cX5_tell 5 = .ok (.aload_n 0, 1) := by decide +kernel
theorem dX5_tell_6 : decode cX5_tell 6 = .ok (.iload_n 2, 1) := by decide +kernel
theorem dX5_tell_7 : decode cX5_tell 7 = .ok (.putfield 15, 3) := by decide +kernel
theorem dX5_tell_10 : decode cX5_tell 10 = .ok (.return_, 1) := by decide +kernel
theorem dX5_has_0 : decode cX5_has 0 = .ok (.aload_n 0, 1) := by decide +kernel
theorem dX5_has_1 : decode cX5_has 1 = .ok (.getfield 9, 3) := by decide +kernel
theorem dX5_has_4 : decode cX5_has 4 = .ok (.iload_n 1, 1) := by decide +kernel
theorem dX5_has_5 : decode cX5_has 5 = .ok (.if_icmp .gt 15, 3) := by decide +kernel
theorem dX5_has_8 : decode cX5_has 8 = .ok (.iload_n 1, 1) := by decide +kernel
theorem dX5_has_9 : decode cX5_has 9 = .ok (.aload_n 0, 1) := by decide +kernel
theorem dX5_has_10 : decode cX5_has 10 = .ok (.getfield 15, 3) := by decide +kernel
theorem dX5_has_13 : decode cX5_has 13 = .ok (.if_icmp .gt 7, 3) := by decide +kernel
theorem dX5_has_16 : decode cX5_has 16 = .ok (.iconst 1, 1) := by decide +kernel
theorem dX5_has_17 : decode cX5_has 17 = .ok (.goto 4, 3) := by decide +kernel
theorem dX5_has_20 : decode cX5_has 20 = .ok (.iconst 0, 1) := by decide +kernel
theorem dX5_has_21 : decode cX5_has 21 = .ok (.ireturn, 1) := by decide +kernel
theorem dX6_init_0 : decode cX6_init 0 = .ok (.aload_n 0, 1) := by decide +kernel
theorem dX6_init_1 : decode cX6_init 1 = .ok (.invokespecial 1, 3) := by decide +kernel
theorem dX6_init_4 : decode cX6_init 4 = .ok (.aload_n 0, 1) := by decide +kernel
theorem dX6_init_5 : decode cX6_init 5 = .ok (.iconst 4, 1) := by decide +kernel
theorem dX6_init_6 : decode cX6_init 6 = .ok (.anewarray 9, 3) := by decide +kernel
theorem dX6_init_9 : decode cX6_init 9 = .ok (.putfield 11, 3) := by decide +kernel
theorem dX6_init_12 : decode cX6_init 12 = .ok (.aload_n 0, 1) := by decide +kernel
theorem dX6_init_13 : decode cX6_init 13 = .ok (.bipush 6, 2) := by decide +kernel
theorem dX6_init_15 : decode cX6_init 15 = .ok (.anewarray 15, 3) := by decide +kernel
theorem dX6_init_18 : decode cX6_init 18 = .ok (.putfield 17, 3) := by decide +kernel
theorem dX6_init_21 : decode cX6_init 21 = .ok (.aload_n 0, 1) := by decide +kernel
theorem dX6_init_22 : decode cX6_init 22 = .ok (.bipush 24, 2) := by decide +kernel
theorem dX6_init_24 : decode cX6_init 24 = .ok (.anewarray 21, 3) := by decide +kernel
theorem dX6_init_27 : decode cX6_init 27 = .ok (.putfield 23, 3) := by decide +kernel
theorem dX6_init_30 : decode cX6_init 30 = .ok (.aload_n 0, 1) := by decide +kernel
theorem dX6_init_31 : decode cX6_init 31 = .ok (.bipush 40, 2) := by decide +kernel
theorem dX6_init_33 : decode cX6_init 33 = .ok (.anewarray 27, 3) := by decide +kernel
theorem dX6_init_36 : decode cX6_init 36 = .ok (.putfield 29, 3) := by decide +kernel
theorem dX6_init_39 : decode cX6_init 39 = .ok (.aload_n 0, 1) := by decide +kernel
theorem dX6_init_40 : decode cX6_init 40 = .ok (.bipush 10, 2) := by decide +kernel
theorem dX6_init_42 : decode cX6_init 42 = .ok (.newarray .int, 2) := by decide +kernel
theorem dX6_init_44 : decode cX6_init 44 = .ok (.putfield 33, 3) := by decide +kernel
theorem dX6_init_47 : decode cX6_init 47 = .ok (.aload_n 0, 1) := by decide +kernel
theorem dX6_init_48 : decode cX6_init 48 = .ok (.bipush 6, 2) := by decide +kernel
theorem dX6_init_50 : decode cX6_init 50 = .ok (.newarray .int, 2) := by decide +kernel
theorem dX6_init_52 : decode cX6_init 52 = .ok (.putfield 37, 3) := by decide +kernel
theorem dX6_init_55 : decode cX6_init 55 = .ok (.aload_n 0, 1) := by decide +kernel
theorem dX6_init_56 : decode cX6_init 56 = .ok (.bipush 6, 2) := by decide +kernel
theorem dX6_init_58 : decode cX6_init 58 = .ok (.newarray .int, 2) := by decide +kernel
theorem dX6_init_60 : decode cX6_init 60 = .ok (.putfield 40, 3) := by decide +kernel
theorem dX6_init_63 : decode cX6_init 63 = .ok (.aload_n 0, 1) := by decide +kernel
theorem dX6_init_64 : decode cX6_init 64 = .ok (.iconst 3, 1) := by decide +kernel
theorem dX6_init_65 : decode cX6_init 65 = .ok (.newarray .long, 2) := by decide +kernel
theorem dX6_init_67 : decode cX6_init 67 = .ok (.putfield 43, 3) := by decide +kernel
theorem dX6_init_70 : decode cX6_init 70 = .ok (.aload_n 0, 1) := by decide +kernel
theorem dX6_init_71 : decode cX6_init 71 = .ok (.new 47, 3) := by decide +kernel
theorem dX6_init_74 : decode cX6_init 74 = .ok (.dup, 1) := by decide +kernel
theorem dX6_init_75 : decode cX6_init 75 = .ok (.invokespecial 49, 3) := by decide +kernel
theorem dX6_init_78 : decode cX6_init 78 = .ok (.putfield 50, 3) := by decide +kernel
theorem dX6_init_81 : decode cX6_init 81 = .ok (.aload_n 0, 1) := by decide +kernel
theorem dX6_init_82 : decode cX6_init 82 = .ok (.new 47, 3) := by decide +kernel
theorem dX6_init_85 : decode cX6_init 85 = .ok (.dup, 1) := by decide +kernel
theorem dX6_init_86 : decode cX6_init 86 = .ok (.invokespecial 49, 3) := by decide +kernel
theorem dX6_init_89 : decode cX6_init 89 = .ok (.putfield 54, 3) := by decide +kernel
theorem dX6_init_92 : decode cX6_init 92 = .ok (.aload_n 0, 1) := by decide +kernel
theorem dX6_init_93 : decode cX6_init 93 = .ok (.new 57, 3) := by decide +kernel
theorem dX6_init_96 : decode cX6_init 96 = .ok (.dup, 1) := by decide +kernel
theorem dX6_init_97 : decode cX6_init 97 = .ok (.invokespecial 59, 3) := by decide +kernel
theorem dX6_init_100 : decode cX6_init 100 = .ok (.putfield 60, 3) := by decide +kernel
theorem dX6_init_103 : decode cX6_init 103 = .ok (.aload_n 0, 1) := by decide +kernel
theorem dX6_init_104 : decode cX6_init 104 = .ok (.iconst 0, 1) := by decide +kernel
theorem dX6_init_105 : decode cX6_init 105 = .ok (.putfield 64, 3) := by decide +kernel
theorem dX6_init_108 : decode cX6_init 108 = .ok (.aload_n 0, 1) := by decide +kernel
theorem dX6_init_109 : decode cX6_init 109 = .ok (.iconst 0, 1) := by decide +kernel
theorem dX6_init_110 : decode cX6_init 110 = .ok (.putfield 68, 3) := by decide +kernel
theorem dX6_init_113 : decode cX6_init 113 = .ok (.aload_n 0, 1) := by decide +kernel
theorem dX6_init_114 : decode cX6_init 114 = .ok (.iconst 0, 1) := by decide +kernel
theorem dX6_init_115 : decode cX6_init 115 = .ok (.putfield 71, 3) := by decide +kernel
theorem dX6_init_118 : decode cX6_init 118 = .ok (.aload_n 0, 1) := by decide +kernel
theorem dX6_init_119 : decode cX6_init 119 = .ok (.iconst 0, 1) := by decide +kernel
theorem dX6_init_120 : decode cX6_init 120 = .ok (.putfield 74, 3) := by decide +kernel
theorem dX6_init_123 : decode cX6_init 123 = .ok (.aload_n 0, 1) := by decide +kernel
theorem dX6_init_124 : decode cX6_init 124 = .ok (.iconst 0, 1) := by decide +kernel
theorem dX6_init_125 : decode cX6_init 125 = .ok (.putfield 77, 3) := by decide +kernel
theorem dX6_init_128 : decode cX6_init 128 = .ok (.iconst 0, 1) := by decide +kernel
theorem dX6_init_129 : decode cX6_init 129 = .ok (.istore_n 1, 1) := by decide +kernel
theorem dX6_init_130 : decode cX6_init 130 = .ok (.iload_n 1, 1) := by decide +kernel
theorem dX6_init_131 : decode cX6_init 131 = .ok (.iconst 4, 1) := by decide +kernel
theorem dX6_init_132 : decode cX6_init 132 = .ok (.if_icmp .ge 22, 3) := by decide +kernel
theorem dX6_init_135 : decode cX6_init 135 = .ok (.aload_n 0, 1) := by decide +kernel
theorem dX6_init_136 : decode cX6_init 136 = .ok (.getfield 11, 3) := by decide +kernel
theorem dX6_init_139 : decode cX6_init 139 = .ok (.iload_n 1, 1) := by decide +kernel
theorem dX6_init_140 : decode cX6_init 140 = .ok (.new 9, 3) := by decide +kernel
theorem dX6_init_143 : decode cX6_init 143 = .ok (.dup, 1) := by decide +kernel
theorem dX6_init_144 : decode cX6_init 144 = .ok (.invokespecial 80, 3) := by decide +kernel
theorem dX6_init_147 : decode cX6_init 147 = .ok (.aastore, 1) := by decide +kernel
theorem dX6_init_148 : decode cX6_init 148 = .ok (.iinc 1 1, 3) := by decide +kernel
theorem dX6_init_151 : decode cX6_init 151 = .ok (.goto (-21), 3) := by decide +kernel
theorem dX6_init_154 : decode cX6_init 154 = .ok (.iconst 0, 1) := by decide +kernel
theorem dX6_init_155 : decode cX6_init 155 = .ok (.istore_n 1, 1) := by decide +kernel
theorem dX6_init_156 : decode cX6_init 156 = .ok (.iload_n 1, 1) := by decide +kernel
theorem dX6_init_157 : decode cX6_init 157 = .ok (.bipush 6, 2) := by decide +kernel
theorem dX6_init_159 : decode cX6_init 159 = .ok (.if_icmp .ge 22, 3) := by decide +kernel
theorem dX6_init_162 : decode cX6_init 162 = .ok (.aload_n 0, 1) := by decide +kernel
theorem dX6_init_163 : decode cX6_init 163 = .ok (.getfield 17, 3) := by decide +kernel
theorem dX6_init_166 : decode cX6_init 166 = .ok (.iload_n 1, 1) := by decide +kernel
theorem dX6_init_167 : decode cX6_init 167 = .ok (.new 15, 3) := by decide +kernel
theorem dX6_init_170 : decode cX6_init 170 = .ok (.dup, 1) := by decide +kernel
theorem dX6_init_171 : decode cX6_init 171 = .ok (.invokespecial 81, 3) := by decide +kernel
theorem dX6_init_174 : decode cX6_init 174 = .ok (.aastore, 1) := by decide +kernel
theorem dX6_init_175 : decode cX6_init 175 = .ok (.iinc 1 1, 3) := by decide +kernel
theorem dX6_init_178 : decode cX6_init 178 = .ok (.goto (-22), 3) := by decide +kernel
theorem dX6_init_181 : decode cX6_init 181 = .ok (.iconst 0, 1) := by decide +kernel
theorem dX6_init_182 : decode cX6_init 182 = .ok (.istore_n 1, 1) := by decide +kernel
theorem dX6_init_183 : decode cX6_init 183 = .ok (.iload_n 1, 1) := by decide +kernel
theorem dX6_init_184 : decode cX6_init 184 = .ok (.bipush 24, 2) := by decide +kernel
theorem dX6_init_186 : decode cX6_init 186 = .ok (.if_icmp .ge 22, 3) := by decide +kernel
theorem dX6_init_189 : decode cX6_init 189 = .ok (.aload_n 0, 1) := by decide +kernel
theorem dX6_init_190 : decode cX6_init 190 = .ok (.getfield 23, 3) := by decide +kernel
theorem dX6_init_193 : decode cX6_init 193 = .ok (.iload_n 1, 1) := by decide +kernel
theorem dX6_init_194 : decode cX6_init 194 = .ok (.new 21, 3) := by decide +kernel
theorem dX6_init_197 : decode cX6_init 197 = .ok (.dup, 1) := by decide +kernel
theorem dX6_init_198 : decode cX6_init 198 = .ok (.invokespecial 82, 3) := by decide +kernel
theorem dX6_init_201 : decode cX6_init 201 = .ok (.aastore, 1) := by decide +kernel
theorem dX6_init_202 : decode cX6_init 202 = .ok (.iinc 1 1, 3) := by decide +kernel
theorem dX6_init_205 : decode cX6_init 205 = .ok (.goto (-22), 3) := by decide +kernel
theorem dX6_init_208 : decode cX6_init 208 = .ok (.iconst 0, 1) := by decide +kernel
theorem dX6_init_209 : decode cX6_init 209 = .ok (.istore_n 1, 1) := by decide +kernel
theorem dX6_init_210 : decode cX6_init 210 = .ok (.iload_n 1, 1) := by decide +kernel
theorem dX6_init_211 : decode cX6_init 211 = .ok (.bipush 40, 2) := by decide +kernel
theorem dX6_init_213 : decode cX6_init 213 = .ok (.if_icmp .ge 22, 3) := by decide +kernel
theorem dX6_init_216 : decode cX6_init 216 = .ok (.aload_n 0, 1) := by decide +kernel
theorem dX6_init_217 : decode cX6_init 217 = .ok (.getfield 29, 3) := by decide +kernel
theorem dX6_init_220 : decode cX6_init 220 = .ok (.iload_n 1, 1) := by decide +kernel
theorem dX6_init_221 : decode cX6_init 221 = .ok (.new 27, 3) := by decide +kernel
theorem dX6_init_224 : decode cX6_init 224 = .ok (.dup, 1) := by decide +kernel
theorem dX6_init_225 : decode cX6_init 225 = .ok (.invokespecial 83, 3) := by decide +kernel
theorem dX6_init_228 : decode cX6_init 228 = .ok (.aastore, 1) := by decide +kernel
theorem dX6_init_229 : decode cX6_init 229 = .ok (.iinc 1 1, 3) := by decide +kernel
theorem dX6_init_232 : decode cX6_init 232 = .ok (.goto (-22), 3) := by decide +kernel
theorem dX6_init_235 : decode cX6_init 235 = .ok (.iconst 0, 1) := by decide +kernel
theorem dX6_init_236 : decode cX6_init 236 = .ok (.istore_n 1, 1) := by decide +kernel
theorem dX6_init_237 : decode cX6_init 237 = .ok (.iload_n 1, 1) := by decide +kernel
theorem dX6_init_238 : decode cX6_init 238 = .ok (.bipush 10, 2) := by decide +kernel
theorem dX6_init_240 : decode cX6_init 240 = .ok (.if_icmp .ge 16, 3) := by decide +kernel
theorem dX6_init_243 : decode cX6_init 243 = .ok (.aload_n 0, 1) := by decide +kernel
theorem dX6_init_244 : decode cX6_init 244 = .ok (.getfield 33, 3) := by decide +kernel
theorem dX6_init_247 : decode cX6_init 247 = .ok (.iload_n 1, 1) := by decide +kernel
theorem dX6_init_248 : decode cX6_init 248 = .ok (.iconst (-1), 1) := by decide +kernel
theorem dX6_init_249 : decode cX6_init 249 = .ok (.iastore, 1) := by decide +kernel
theorem dX6_init_250 : decode cX6_init 250 = .ok (.iinc 1 1, 3) := by decide +kernel
theorem dX6_init_253 : decode cX6_init 253 = .ok (.goto (-16), 3) := by decide +kernel
theorem dX6_init_256 : decode cX6_init 256 = .ok (.return_, 1) := by decide +kernel
theorem dX6_ship_0 : decode cX6_ship 0 = .ok (.iload_n 1, 1) := by decide +kernel
theorem dX6_ship_1 : decode cX6_ship 1 = .ok (.bipush 6, 2) := by decide +kernel
theorem dX6_ship_3 : decode cX6_ship 3 = .ok (.invokestatic 84, 3) := by decide +kernel
theorem dX6_ship_6 : decode cX6_ship 6 = .ok (.iload_n 2, 1) := by decide +kernel
theorem dX6_ship_7 : decode cX6_ship 7 = .ok (.iconst 1, 1) := by decide +kernel
theorem dX6_ship_8 : decode cX6_ship 8 = .ok (.iconst 4, 1) := by decide +kernel
theorem dX6_ship_9 : decode cX6_ship 9 = .ok (.invokestatic 88, 3) := by decide +kernel
theorem dX6_ship_12 : decode cX6_ship 12 = .ok (.ifCond .eq 52, 3) := by decide +kernel
theorem dX6_ship_15 : decode cX6_ship 15 = .ok (.iload_n 3, 1) := by decide +kernel
theorem dX6_ship_16 : decode cX6_ship 16 = .ok (.bipush 10, 2) := by decide +kernel
theorem dX6_ship_18 : decode cX6_ship 18 = .ok (.bipush 100, 2) := by decide +kernel
theorem dX6_ship_20 : decode cX6_ship 20 = .ok (.invokestatic 88, 3) := by decide +kernel
theorem dX6_ship_23 : decode cX6_ship 23 = .ok (.ifCond .eq 41, 3) := by decide +kernel
theorem dX6_ship_26 : decode cX6_ship 26 = .ok (.iload 4, 2) := by decide +kernel
theorem dX6_ship_28 : decode cX6_ship 28 = .ok (.iconst 1, 1) := by decide +kernel
theorem dX6_ship_29 : decode cX6_ship 29 = .ok (.sipush 1000, 3) := by decide +kernel
theorem dX6_ship_32 : decode cX6_ship 32 = .ok (.invokestatic 88, 3) := by decide +kernel
theorem dX6_ship_35 : decode cX6_ship 35 = .ok (.ifCond .eq 29, 3) := by decide +kernel
theorem dX6_ship_38 : decode cX6_ship 38 = .ok (.iload 5, 2) := by decide +kernel
theorem dX6_ship_40 : decode cX6_ship 40 = .ok (.iconst 1, 1) := by decide +kernel
theorem dX6_ship_41 : decode cX6_ship 41 = .ok (.bipush 9, 2) := by decide +kernel
theorem dX6_ship_43 : decode cX6_ship 43 = .ok (.invokestatic 88, 3) := by decide +kernel
theorem dX6_ship_46 : decode cX6_ship 46 = .ok (.ifCond .eq 18, 3) := by decide +kernel
theorem dX6_ship_49 : decode cX6_ship 49 = .ok (.iload 6, 2) := by decide +kernel
theorem dX6_ship_51 : decode cX6_ship 51 = .ok (.iconst 1, 1) := by decide +kernel
theorem dX6_ship_52 : decode cX6_ship 52 = .ok (.bipush 40, 2) := by decide +kernel
theorem dX6_ship_54 : decode cX6_ship 54 = .ok (.invokestatic 88, 3) := by decide +kernel
theorem dX6_ship_57 : decode cX6_ship 57 = .ok (.ifCond .eq 7, 3) := by decide +kernel
theorem dX6_ship_60 : decode cX6_ship 60 = .ok (.iconst 1, 1) := by decide +kernel
theorem dX6_ship_61 : decode cX6_ship 61 = .ok (.goto 4, 3) := by decide +kernel
theorem dX6_ship_64 : decode cX6_ship 64 = .ok (.iconst 0, 1) := by decide +kernel
theorem dX6_ship_65 : decode cX6_ship 65 = .ok (.invokestatic 92, 3) := by decide +kernel
theorem dX6_ship_68 : decode cX6_ship 68 = .ok (.aload_n 0, 1) := by decide +kernel
theorem dX6_ship_69 : decode cX6_ship 69 = .ok (.getfield 64, 3) := by decide +kernel
theorem dX6_ship_72 : decode cX6_ship 72 = .ok (.iconst 4, 1) := by decide +kernel
theorem dX6_ship_73 : decode cX6_ship 73 = .ok (.if_icmp .ge 7, 3) := by decide +kernel
theorem dX6_ship_76 : decode cX6_ship 76 = .ok (.iconst 1, 1) := by decide +kernel
theorem dX6_ship_77 : decode cX6_ship 77 = .ok (.goto 4, 3) := by decide +kernel
theorem dX6_ship_80 : decode cX6_ship 80 = .ok (.iconst 0, 1) := by decide +kernel
theorem dX6_ship_81 : decode cX6_ship 81 = .ok (.invokestatic 96, 3) := by decide +kernel
theorem dX6_ship_84 : decode cX6_ship 84 = .ok (.aload_n 0, 1) := by decide +kernel
theorem dX6_ship_85 : decode cX6_ship 85 = .ok (.getfield 64, 3) := by decide +kernel
theorem dX6_ship_88 : decode cX6_ship 88 = .ok (.istore 7, 2) := by decide +kernel
theorem dX6_ship_90 : decode cX6_ship 90 = .ok (.aload_n 0, 1) := by decide +kernel
theorem dX6_ship_91 : decode cX6_ship 91 = .ok (.dup, 1) := by decide +kernel
theorem dX6_ship_92 : decode cX6_ship 92 = .ok (.getfield 64, 3) := by decide +kernel
theorem dX6_ship_95 : decode cX6_ship 95 = .ok (.iconst 1, 1) := by decide +kernel
theorem dX6_ship_96 : decode cX6_ship 96 = .ok (.iadd, 1) := by decide +kernel
theorem dX6_ship_97 : decode cX6_ship 97 = .ok (.putfield 64, 3) := by decide +kernel
theorem dX6_ship_100 : decode cX6_ship 100 = .ok (.aload_n 0, 1) := by decide +kernel
theorem dX6_ship_101 : decode cX6_ship 101 = .ok (.iload 7, 2) := by decide +kernel
theorem dX6_ship_103 : decode cX6_ship 103 = .ok (.invokevirtual 99, 3) := by decide +kernel
theorem dX6_ship_106 : decode cX6_ship 106 = .ok (.astore 8, 2) := by decide +kernel
theorem dX6_ship_108 : decode cX6_ship 108 = .ok (.aload 8, 2) := by decide +kernel
theorem dX6_ship_110 : decode cX6_ship 110 = .ok (.iload_n 1, 1) := by decide +kernel
theorem dX6_ship_111 : decode cX6_ship 111 = .ok (.putfield 103, 3) := by decide +kernel
theorem dX6_ship_114 : decode cX6_ship 114 = .ok (.aload 8, 2) := by decide +kernel
theorem dX6_ship_116 : decode cX6_ship 116 = .ok (.iload_n 2, 1) := by decide +kernel
theorem dX6_ship_117 : decode cX6_ship 117 = .ok (.putfield 106, 3) := by decide +kernel
theorem dX6_ship_120 : decode cX6_ship 120 = .ok (.aload 8, 2) := by decide +kernel
theorem dX6_ship_122 : decode cX6_ship 122 = .ok (.iload_n 3, 1) := by decide +kernel
theorem dX6_ship_123 : decode cX6_ship 123 = .ok (.putfield 109, 3) := by decide +kernel
theorem dX6_ship_126 : decode cX6_ship 126 = .ok (.aload 8, 2) := by decide +kernel
theorem dX6_ship_128 : decode cX6_ship 128 = .ok (.iload 4, 2) := by decide +kernel
theorem dX6_ship_130 : decode cX6_ship 130 = .ok (.putfield 112, 3) := by decide +kernel
theorem dX6_ship_133 : decode cX6_ship 133 = .ok (.aload 8, 2) := by decide +kernel
theorem dX6_ship_135 : decode cX6_ship 135 = .ok (.iload 5, 2) := by decide +kernel
theorem dX6_ship_137 : decode cX6_ship 137 = .ok (.putfield 115, 3) := by decide +kernel
theorem dX6_ship_140 : decode cX6_ship 140 = .ok (.aload 8, 2) := by decide +kernel
theorem dX6_ship_142 : decode cX6_ship 142 = .ok (.iload 6, 2) := by decide +kernel
theorem dX6_ship_144 : decode cX6_ship 144 = .ok (.putfield 118, 3) := by decide +kernel
theorem dX6_ship_147 : decode cX6_ship 147 = .ok (.iload 7, 2) := by decide +kernel
theorem dX6_ship_149 : decode cX6_ship 149 = .ok (.ireturn, 1) := by decide +kernel
theorem dX6_fill_0 : decode cX6_fill 0 = .ok (.aload_n 0, 1) := by decide +kernel
theorem dX6_fill_1 : decode cX6_fill 1 = .ok (.iload_n 1, 1) := by decide +kernel
theorem dX6_fill_2 : decode cX6_fill 2 = .ok (.invokevirtual 99, 3) := by decide +kernel
theorem dX6_fill_5 : decode cX6_fill 5 = .ok (.astore_n 3, 1) := by decide +kernel
theorem dX6_fill_6 : decode cX6_fill 6 = .ok (.iload_n 2, 1) := by decide +kernel
theorem dX6_fill_7 : decode cX6_fill 7 = .ok (.iconst 1, 1) := by decide +kernel
theorem dX6_fill_8 : decode cX6_fill 8 = .ok (.sipush 1000, 3) := by decide +kernel
theorem dX6_fill_11 : decode cX6_fill 11 = .ok (.invokestatic 88, 3) := by decide +kernel
theorem dX6_fill_14 : decode cX6_fill 14 = .ok (.invokestatic 92, 3) := by decide +kernel
theorem dX6_fill_17 : decode cX6_fill 17 = .ok (.aload_n 3, 1) := by decide +kernel
theorem dX6_fill_18 : decode cX6_fill 18 = .ok (.getfield 121, 3) := by decide +kernel
theorem dX6_fill_21 : decode cX6_fill 21 = .ok (.iload_n 2, 1) := by decide +kernel
theorem dX6_fill_22 : decode cX6_fill 22 = .ok (.iadd, 1) := by decide +kernel
theorem dX6_fill_23 : decode cX6_fill 23 = .ok (.sipush 1000, 3) := by decide +kernel
theorem dX6_fill_26 : decode cX6_fill 26 = .ok (.if_icmp .gt 7, 3) := by decide +kernel
theorem dX6_fill_29 : decode cX6_fill 29 = .ok (.iconst 1, 1) := by decide +kernel
theorem dX6_fill_30 : decode cX6_fill 30 = .ok (.goto 4, 3) := by decide +kernel
theorem dX6_fill_33 : decode cX6_fill 33 = .ok (.iconst 0, 1) := by decide +kernel
theorem dX6_fill_34 : decode cX6_fill 34 = .ok (.invokestatic 96, 3) := by decide +kernel
theorem dX6_fill_37 : decode cX6_fill 37 = .ok (.aload_n 3, 1) := by decide +kernel
theorem dX6_fill_38 : decode cX6_fill 38 = .ok (.dup, 1) := by decide +kernel
theorem dX6_fill_39 : decode cX6_fill 39 = .ok (.getfield 121, 3) := by decide +kernel
theorem dX6_fill_42 : decode cX6_fill 42 = .ok (.iload_n 2, 1) := by decide +kernel
theorem dX6_fill_43 : decode cX6_fill 43 = .ok (.iadd, 1) := by decide +kernel
theorem dX6_fill_44 : decode cX6_fill 44 = .ok (.putfield 121, 3) := by decide +kernel
theorem dX6_fill_47 : decode cX6_fill 47 = .ok (.aload_n 0, 1) := by decide +kernel
theorem dX6_fill_48 : decode cX6_fill 48 = .ok (.getfield 43, 3) := by decide +kernel
theorem dX6_fill_51 : decode cX6_fill 51 = .ok (.iconst 2, 1) := by decide +kernel
theorem dX6_fill_52 : decode cX6_fill 52 = .ok (.dup2, 1) := by decide +kernel
theorem dX6_fill_53 : decode cX6_fill 53 = .ok (.laload, 1) := by decide +kernel
theorem dX6_fill_54 : decode cX6_fill 54 = .ok (.iconst 3, 1) := by decide +kernel
theorem dX6_fill_55 : decode cX6_fill 55 = .ok (.iload_n 2, 1) := by decide +kernel
theorem dX6_fill_56 : decode cX6_fill 56 = .ok (.imul, 1) := by decide +kernel
theorem dX6_fill_57 : decode cX6_fill 57 = .ok (.i2l, 1) := by decide +kernel
theorem dX6_fill_58 : decode cX6_fill 58 = .ok (.lsub, 1) := by decide +kernel
theorem dX6_fill_59 : decode cX6_fill 59 = .ok (.lastore, 1) := by decide +kernel
theorem dX6_fill_60 : decode cX6_fill 60 = .ok (.aload_n 3, 1) := by decide +kernel
theorem dX6_fill_61 : decode cX6_fill 61 = .ok (.getfield 121, 3) := by decide +kernel
theorem dX6_fill_64 : decode cX6_fill 64 = .ok (.ireturn, 1) := by decide +kernel
theorem dX6_crew_0 : decode cX6_crew 0 = .ok (.iload_n 1, 1) := by decide +kernel
theorem dX6_crew_1 : decode cX6_crew 1 = .ok (.aload_n 0, 1) := by decide +kernel
theorem dX6_crew_2 : decode cX6_crew 2 = .ok (.getfield 64, 3) := by decide +kernel
theorem dX6_crew_5 : decode cX6_crew 5 = .ok (.invokestatic 84, 3) := by decide +kernel
theorem dX6_crew_8 : decode cX6_crew 8 = .ok (.iload_n 2, 1) := by decide +kernel
theorem dX6_crew_9 : decode cX6_crew 9 = .ok (.iconst 0, 1) := by decide +kernel
theorem dX6_crew_10 : decode cX6_crew 10 = .ok (.sipush 500, 3) := by decide +kernel
theorem dX6_crew_13 : decode cX6_crew 13 = .ok (.invokestatic 88, 3) := by decide +kernel
theorem dX6_crew_16 : decode cX6_crew 16 = .ok (.ifCond .eq 18, 3) := by decide +kernel
theorem dX6_crew_19 : decode cX6_crew 19 = .ok (.iload_n 3, 1) := by decide +kernel
theorem dX6_crew_20 : decode cX6_crew 20 = .ok (.iload_n 2, 1) := by decide +kernel
theorem dX6_crew_21 : decode cX6_crew 21 = .ok (.sipush 500, 3) := by decide +kernel
theorem dX6_crew_24 : decode cX6_crew 24 = .ok (.invokestatic 88, 3) := by decide +kernel
theorem dX6_crew_27 : decode cX6_crew 27 = .ok (.ifCond .eq 7, 3) := by decide +kernel
theorem dX6_crew_30 : decode cX6_crew 30 = .ok (.iconst 1, 1) := by decide +kernel
theorem dX6_crew_31 : decode cX6_crew 31 = .ok (.goto 4, 3) := by decide +kernel
theorem dX6_crew_34 : decode cX6_crew 34 = .ok (.iconst 0, 1) := by decide +kernel
theorem dX6_crew_35 : decode cX6_crew 35 = .ok (.invokestatic 92, 3) := by decide +kernel
theorem dX6_crew_38 : decode cX6_crew 38 = .ok (.aload_n 0, 1) := by decide +kernel
theorem dX6_crew_39 : decode cX6_crew 39 = .ok (.getfield 68, 3) := by decide +kernel
theorem dX6_crew_42 : decode cX6_crew 42 = .ok (.bipush 6, 2) := by decide +kernel
theorem dX6_crew_44 : decode cX6_crew 44 = .ok (.if_icmp .ge 7, 3) := by decide +kernel
theorem dX6_crew_47 : decode cX6_crew 47 = .ok (.iconst 1, 1) := by decide +kernel
theorem dX6_crew_48 : decode cX6_crew 48 = .ok (.goto 4, 3) := by decide +kernel
theorem dX6_crew_51 : decode cX6_crew 51 = .ok (.iconst 0, 1) := by decide +kernel
theorem dX6_crew_52 : decode cX6_crew 52 = .ok (.invokestatic 96, 3) := by decide +kernel
theorem dX6_crew_55 : decode cX6_crew 55 = .ok (.aload_n 0, 1) := by decide +kernel
theorem dX6_crew_56 : decode cX6_crew 56 = .ok (.getfield 68, 3) := by decide +kernel
theorem dX6_crew_59 : decode cX6_crew 59 = .ok (.istore 4, 2) := by decide +kernel
theorem dX6_crew_61 : decode cX6_crew 61 = .ok (.aload_n 0, 1) := by decide +kernel
theorem dX6_crew_62 : decode cX6_crew 62 = .ok (.dup, 1) := by decide +kernel
theorem dX6_crew_63 : decode cX6_crew 63 = .ok (.getfield 68, 3) := by decide +kernel
theorem dX6_crew_66 : decode cX6_crew 66 = .ok (.iconst 1, 1) := by decide +kernel
theorem dX6_crew_67 : decode cX6_crew 67 = .ok (.iadd, 1) := by decide +kernel
theorem dX6_crew_68 : decode cX6_crew 68 = .ok (.putfield 68, 3) := by decide +kernel
theorem dX6_crew_71 : decode cX6_crew 71 = .ok (.aload_n 0, 1) := by decide +kernel
theorem dX6_crew_72 : decode cX6_crew 72 = .ok (.iload 4, 2) := by decide +kernel
theorem dX6_crew_74 : decode cX6_crew 74 = .ok (.invokevirtual 124, 3) := by decide +kernel
theorem dX6_crew_77 : decode cX6_crew 77 = .ok (.astore 5, 2) := by decide +kernel
theorem dX6_crew_79 : decode cX6_crew 79 = .ok (.aload 5, 2) := by decide +kernel
theorem dX6_crew_81 : decode cX6_crew 81 = .ok (.iload_n 1, 1) := by decide +kernel
theorem dX6_crew_82 : decode cX6_crew 82 = .ok (.putfield 128, 3) := by decide +kernel
theorem dX6_crew_85 : decode cX6_crew 85 = .ok (.aload 5, 2) := by decide +kernel
theorem dX6_crew_87 : decode cX6_crew 87 = .ok (.getfield 131, 3) := by decide +kernel
theorem dX6_crew_90 : decode cX6_crew 90 = .ok (.iload_n 2, 1) := by decide +kernel
theorem dX6_crew_91 : decode cX6_crew 91 = .ok (.iload_n 3, 1) := by decide +kernel
theorem dX6_crew_92 : decode cX6_crew 92 = .ok (.invokevirtual 134, 3) := by decide +kernel
theorem dX6_crew_95 : decode cX6_crew 95 = .ok (.iload 4, 2) := by decide +kernel
theorem dX6_crew_97 : decode cX6_crew 97 = .ok (.ireturn, 1) := by decide +kernel
theorem dX6_hours_0 : decode cX6_hours 0 = .ok (.iload_n 1, 1) := by decide +kernel
theorem dX6_hours_1 : decode cX6_hours 1 = .ok (.aload_n 0, 1) := by decide +kernel
theorem dX6_hours_2 : decode cX6_hours 2 = .ok (.getfield 68, 3) := by decide +kernel
theorem dX6_hours_5 : decode cX6_hours 5 = .ok (.invokestatic 84, 3) := by decide +kernel
theorem dX6_hours_8 : decode cX6_hours 8 = .ok (.iload_n 2, 1) := by decide +kernel
theorem dX6_hours_9 : decode cX6_hours 9 = .ok (.iconst 0, 1) := by decide +kernel
theorem dX6_hours_10 : decode cX6_hours 10 = .ok (.sipush 500, 3) := by decide +kernel
theorem dX6_hours_13 : decode cX6_hours 13 = .ok (.invokestatic 88, 3) := by decide +kernel
theorem dX6_hours_16 : decode cX6_hours 16 = .ok (.invokestatic 92, 3) := by decide +kernel
theorem dX6_hours_19 : decode cX6_hours 19 = .ok (.aload_n 0, 1) := by decide +kernel
theorem dX6_hours_20 : decode cX6_hours 20 = .ok (.iload_n 1, 1) := by decide +kernel
theorem dX6_hours_21 : decode cX6_hours 21 = .ok (.iload_n 2, 1) := by decide +kernel
theorem dX6_hours_22 : decode cX6_hours 22 = .ok (.invokevirtual 137, 3) := by decide +kernel
theorem dX6_hours_25 : decode cX6_hours 25 = .ok (.ireturn, 1) := by decide +kernel
theorem dX6_depth_0 : decode cX6_depth 0 = .ok (.iload_n 1, 1) := by decide +kernel
theorem dX6_depth_1 : decode cX6_depth 1 = .ok (.bipush 6, 2) := by decide +kernel
theorem dX6_depth_3 : decode cX6_depth 3 = .ok (.invokestatic 84, 3) := by decide +kernel
theorem dX6_depth_6 : decode cX6_depth 6 = .ok (.iload_n 2, 1) := by decide +kernel
theorem dX6_depth_7 : decode cX6_depth 7 = .ok (.iconst 0, 1) := by decide +kernel
theorem dX6_depth_8 : decode cX6_depth 8 = .ok (.sipush 10000, 3) := by decide +kernel
theorem dX6_depth_11 : decode cX6_depth 11 = .ok (.invokestatic 88, 3) := by decide +kernel
theorem dX6_depth_14 : decode cX6_depth 14 = .ok (.invokestatic 92, 3) := by decide +kernel
theorem dX6_depth_17 : decode cX6_depth 17 = .ok (.iload_n 1, 1) := by decide +kernel
theorem dX6_depth_18 : decode cX6_depth 18 = .ok (.iload_n 2, 1) := by decide +kernel
theorem dX6_depth_19 : decode cX6_depth 19 = .ok (.invokestatic 141, 3) := by decide +kernel
theorem dX6_depth_22 : decode cX6_depth 22 = .ok (.ireturn, 1) := by decide +kernel
theorem dX6_hinder_0 : decode cX6_hinder 0 = .ok (.aload_n 0, 1) := by decide +kernel
theorem dX6_hinder_1 : decode cX6_hinder 1 = .ok (.iload_n 1, 1) := by decide +kernel
theorem dX6_hinder_2 : decode cX6_hinder 2 = .ok (.iload_n 2, 1) := by decide +kernel
theorem dX6_hinder_3 : decode cX6_hinder 3 = .ok (.invokevirtual 144, 3) := by decide +kernel
theorem dX6_hinder_6 : decode cX6_hinder 6 = .ok (.astore 5, 2) := by decide +kernel
theorem dX6_hinder_8 : decode cX6_hinder 8 = .ok (.iload_n 3, 1) := by decide +kernel
theorem dX6_hinder_9 : decode cX6_hinder 9 = .ok (.iconst 0, 1) := by decide +kernel
theorem dX6_hinder_10 : decode cX6_hinder 10 = .ok (.sipush 10000, 3) := by decide +kernel
theorem dX6_hinder_13 : decode cX6_hinder 13 = .ok (.invokestatic 88, 3) := by decide +kernel
theorem dX6_hinder_16 : decode cX6_hinder 16 = .ok (.ifCond .eq 19, 3) := by decide +kernel
theorem dX6_hinder_19 : decode cX6_hinder 19 = .ok (.iload 4, 2) := by decide +kernel
theorem dX6_hinder_21 : decode cX6_hinder 21 = .ok (.iload_n 3, 1) := by decide +kernel
theorem dX6_hinder_22 : decode cX6_hinder 22 = .ok (.sipush 10000, 3) := by decide +kernel
theorem dX6_hinder_25 : decode cX6_hinder 25 = .ok (.invokestatic 88, 3) := by decide +kernel
theorem dX6_hinder_28 : decode cX6_hinder 28 = .ok (.ifCond .eq 7, 3) := by decide +kernel
theorem dX6_hinder_31 : decode cX6_hinder 31 = .ok (.iconst 1, 1) := by decide +kernel
theorem dX6_hinder_32 : decode cX6_hinder 32 = .ok (.goto 4, 3) := by decide +kernel
theorem dX6_hinder_35 : decode cX6_hinder 35 = .ok (.iconst 0, 1) := by decide +kernel
theorem dX6_hinder_36 : decode cX6_hinder 36 = .ok (.invokestatic 92, 3) := by decide +kernel
theorem dX6_hinder_39 : decode cX6_hinder 39 = .ok (.aload 5, 2) := by decide +kernel
theorem dX6_hinder_41 : decode cX6_hinder 41 = .ok (.iload_n 3, 1) := by decide +kernel
theorem dX6_hinder_42 : decode cX6_hinder 42 = .ok (.iload 4, 2) := by decide +kernel
theorem dX6_hinder_44 : decode cX6_hinder 44 = .ok (.invokevirtual 134, 3) := by decide +kernel
theorem dX6_hinder_47 : decode cX6_hinder 47 = .ok (.return_, 1) := by decide +kernel
theorem dX6_bus_0 : decode cX6_bus 0 = .ok (.iload_n 1, 1) := by decide +kernel
theorem dX6_bus_1 : decode cX6_bus 1 = .ok (.bipush 6, 2) := by decide +kernel
theorem dX6_bus_3 : decode cX6_bus 3 = .ok (.invokestatic 84, 3) := by decide +kernel
theorem dX6_bus_6 : decode cX6_bus 6 = .ok (.iload_n 2, 1) := by decide +kernel
theorem dX6_bus_7 : decode cX6_bus 7 = .ok (.iconst 1, 1) := by decide +kernel
theorem dX6_bus_8 : decode cX6_bus 8 = .ok (.bipush 12, 2) := by decide +kernel
theorem dX6_bus_10 : decode cX6_bus 10 = .ok (.invokestatic 88, 3) := by decide +kernel
theorem dX6_bus_13 : decode cX6_bus 13 = .ok (.ifCond .eq 18, 3) := by decide +kernel
theorem dX6_bus_16 : decode cX6_bus 16 = .ok (.iload_n 3, 1) := by decide +kernel
theorem dX6_bus_17 : decode cX6_bus 17 = .ok (.iconst 0, 1) := by decide +kernel
theorem dX6_bus_18 : decode cX6_bus 18 = .ok (.iload_n 2, 1) := by decide +kernel
theorem dX6_bus_19 : decode cX6_bus 19 = .ok (.iconst 1, 1) := by decide +kernel
theorem dX6_bus_20 : decode cX6_bus 20 = .ok (.isub, 1) := by decide +kernel
theorem dX6_bus_21 : decode cX6_bus 21 = .ok (.invokestatic 88, 3) := by decide +kernel
theorem dX6_bus_24 : decode cX6_bus 24 = .ok (.ifCond .eq 7, 3) := by decide +kernel
theorem dX6_bus_27 : decode cX6_bus 27 = .ok (.iconst 1, 1) := by decide +kernel
theorem dX6_bus_28 : decode cX6_bus 28 = .ok (.goto 4, 3) := by decide +kernel
theorem dX6_bus_31 : decode cX6_bus 31 = .ok (.iconst 0, 1) := by decide +kernel
theorem dX6_bus_32 : decode cX6_bus 32 = .ok (.invokestatic 92, 3) := by decide +kernel
theorem dX6_bus_35 : decode cX6_bus 35 = .ok (.aload_n 0, 1) := by decide +kernel
theorem dX6_bus_36 : decode cX6_bus 36 = .ok (.getfield 37, 3) := by decide +kernel
theorem dX6_bus_39 : decode cX6_bus 39 = .ok (.iload_n 1, 1) := by decide +kernel
theorem dX6_bus_40 : decode cX6_bus 40 = .ok (.iload_n 2, 1) := by decide +kernel
theorem dX6_bus_41 : decode cX6_bus 41 = .ok (.iastore, 1) := by decide +kernel
theorem dX6_bus_42 : decode cX6_bus 42 = .ok (.aload_n 0, 1) := by decide +kernel
theorem dX6_bus_43 : decode cX6_bus 43 = .ok (.getfield 40, 3) := by decide +kernel
theorem dX6_bus_46 : decode cX6_bus 46 = .ok (.iload_n 1, 1) := by decide +kernel
theorem dX6_bus_47 : decode cX6_bus 47 = .ok (.iload_n 3, 1) := by decide +kernel
theorem dX6_bus_48 : decode cX6_bus 48 = .ok (.iastore, 1) := by decide +kernel
theorem dX6_bus_49 : decode cX6_bus 49 = .ok (.return_, 1) := by decide +kernel
theorem dX6_reside_0 : decode cX6_reside 0 = .ok (.iload_n 1, 1) := by decide +kernel
theorem dX6_reside_1 : decode cX6_reside 1 = .ok (.bipush 10, 2) := by decide +kernel
theorem dX6_reside_3 : decode cX6_reside 3 = .ok (.invokestatic 84, 3) := by decide +kernel
theorem dX6_reside_6 : decode cX6_reside 6 = .ok (.iload_n 2, 1) := by decide +kernel
theorem dX6_reside_7 : decode cX6_reside 7 = .ok (.iconst (-1), 1) := by decide +kernel
theorem dX6_reside_8 : decode cX6_reside 8 = .ok (.if_icmp .eq 9, 3) := by decide +kernel
theorem dX6_reside_11 : decode cX6_reside 11 = .ok (.iload_n 2, 1) := by decide +kernel
theorem dX6_reside_12 : decode cX6_reside 12 = .ok (.bipush 6, 2) := by decide +kernel
theorem dX6_reside_14 : decode cX6_reside 14 = .ok (.invokestatic 84, 3) := by decide +kernel
theorem dX6_reside_17 : decode cX6_reside 17 = .ok (.aload_n 0, 1) := by decide +kernel
theorem dX6_reside_18 : decode cX6_reside 18 = .ok (.getfield 33, 3) := by decide +kernel
theorem dX6_reside_21 : decode cX6_reside 21 = .ok (.iload_n 1, 1) := by decide +kernel
theorem dX6_reside_22 : decode cX6_reside 22 = .ok (.iaload, 1) := by decide +kernel
theorem dX6_reside_23 : decode cX6_reside 23 = .ok (.istore_n 3, 1) := by decide +kernel
theorem dX6_reside_24 : decode cX6_reside 24 = .ok (.aload_n 0, 1) := by decide +kernel
theorem dX6_reside_25 : decode cX6_reside 25 = .ok (.getfield 33, 3) := by decide +kernel
theorem dX6_reside_28 : decode cX6_reside 28 = .ok (.iload_n 1, 1) := by decide +kernel
theorem dX6_reside_29 : decode cX6_reside 29 = .ok (.iload_n 2, 1) := by decide +kernel
theorem dX6_reside_30 : decode cX6_reside 30 = .ok (.iastore, 1) := by decide +kernel
theorem dX6_reside_31 : decode cX6_reside 31 = .ok (.iload_n 3, 1) := by decide +kernel
theorem dX6_reside_32 : decode cX6_reside 32 = .ok (.ireturn, 1) := by decide +kernel
theorem dX6_plan_0 : decode cX6_plan 0 = .ok (.aload_n 0, 1) := by decide +kernel
theorem dX6_plan_1 : decode cX6_plan 1 = .ok (.iload_n 1, 1) := by decide +kernel
theorem dX6_plan_2 : decode cX6_plan 2 = .ok (.invokevirtual 99, 3) := by decide +kernel
theorem dX6_plan_5 : decode cX6_plan 5 = .ok (.astore 5, 2) := by decide +kernel
theorem dX6_plan_7 : decode cX6_plan 7 = .ok (.iload_n 2, 1) := by decide +kernel
theorem dX6_plan_8 : decode cX6_plan 8 = .ok (.bipush 6, 2) := by decide +kernel
theorem dX6_plan_10 : decode cX6_plan 10 = .ok (.invokestatic 84, 3) := by decide +kernel
theorem dX6_plan_13 : decode cX6_plan 13 = .ok (.aload_n 0, 1) := by decide +kernel
theorem dX6_plan_14 : decode cX6_plan 14 = .ok (.iload_n 1, 1) := by decide +kernel
theorem dX6_plan_15 : decode cX6_plan 15 = .ok (.invokevirtual 148, 3) := by decide +kernel
theorem dX6_plan_18 : decode cX6_plan 18 = .ok (.istore 6, 2) := by decide +kernel
theorem dX6_plan_20 : decode cX6_plan 20 = .ok (.iload 6, 2) := by decide +kernel
theorem dX6_plan_22 : decode cX6_plan 22 = .ok (.iconst (-1), 1) := by decide +kernel
theorem dX6_plan_23 : decode cX6_plan 23 = .ok (.if_icmp .ne 11, 3) := by decide +kernel
theorem dX6_plan_26 : decode cX6_plan 26 = .ok (.aload 5, 2) := by decide +kernel
theorem dX6_plan_28 : decode cX6_plan 28 = .ok (.getfield 103, 3) := by decide +kernel
theorem dX6_plan_31 : decode cX6_plan 31 = .ok (.goto 12, 3) := by decide +kernel
theorem dX6_plan_34 : decode cX6_plan 34 = .ok (.aload_n 0, 1) := by decide +kernel
theorem dX6_plan_35 : decode cX6_plan 35 = .ok (.iload 6, 2) := by decide +kernel
theorem dX6_plan_37 : decode cX6_plan 37 = .ok (.invokevirtual 152, 3) := by decide +kernel
theorem dX6_plan_40 : decode cX6_plan 40 = .ok (.getfield 156, 3) := by decide +kernel
theorem dX6_plan_43 : decode cX6_plan 43 = .ok (.istore 7, 2) := by decide +kernel
theorem dX6_plan_45 : decode cX6_plan 45 = .ok (.iload 6, 2) := by decide +kernel
theorem dX6_plan_47 : decode cX6_plan 47 = .ok (.iconst (-1), 1) := by decide +kernel
theorem dX6_plan_48 : decode cX6_plan 48 = .ok (.if_icmp .ne 7, 3) := by decide +kernel
theorem dX6_plan_51 : decode cX6_plan 51 = .ok (.iconst 0, 1) := by decide +kernel
theorem dX6_plan_52 : decode cX6_plan 52 = .ok (.goto 12, 3) := by decide +kernel
theorem dX6_plan_55 : decode cX6_plan 55 = .ok (.aload_n 0, 1) := by decide +kernel
theorem dX6_plan_56 : decode cX6_plan 56 = .ok (.iload 6, 2) := by decide +kernel
theorem dX6_plan_58 : decode cX6_plan 58 = .ok (.invokevirtual 152, 3) := by decide +kernel
theorem dX6_plan_61 : decode cX6_plan 61 = .ok (.getfield 159, 3) := by decide +kernel
theorem dX6_plan_64 : decode cX6_plan 64 = .ok (.istore 8, 2) := by decide +kernel
theorem dX6_plan_66 : decode cX6_plan 66 = .ok (.iload_n 3, 1) := by decide +kernel
theorem dX6_plan_67 : decode cX6_plan 67 = .ok (.aload_n 0, 1) := by decide +kernel
theorem dX6_plan_68 : decode cX6_plan 68 = .ok (.getfield 77, 3) := by decide +kernel
theorem dX6_plan_71 : decode cX6_plan 71 = .ok (.sipush 10000, 3) := by decide +kernel
theorem dX6_plan_74 : decode cX6_plan 74 = .ok (.invokestatic 88, 3) := by decide +kernel
theorem dX6_plan_77 : decode cX6_plan 77 = .ok (.ifCond .eq 25, 3) := by decide +kernel
theorem dX6_plan_80 : decode cX6_plan 80 = .ok (.iload 4, 2) := by decide +kernel
theorem dX6_plan_82 : decode cX6_plan 82 = .ok (.iconst 1, 1) := by decide +kernel
theorem dX6_plan_83 : decode cX6_plan 83 = .ok (.sipush 400, 3) := by decide +kernel
theorem dX6_plan_86 : decode cX6_plan 86 = .ok (.invokestatic 88, 3) := by decide +kernel
theorem dX6_plan_89 : decode cX6_plan 89 = .ok (.ifCond .eq 13, 3) := by decide +kernel
theorem dX6_plan_92 : decode cX6_plan 92 = .ok (.iload_n 2, 1) := by decide +kernel
theorem dX6_plan_93 : decode cX6_plan 93 = .ok (.iload 7, 2) := by decide +kernel
theorem dX6_plan_95 : decode cX6_plan 95 = .ok (.if_icmp .eq 7, 3) := by decide +kernel
theorem dX6_plan_98 : decode cX6_plan 98 = .ok (.iconst 1, 1) := by decide +kernel
theorem dX6_plan_99 : decode cX6_plan 99 = .ok (.goto 4, 3) := by decide +kernel
theorem dX6_plan_102 : decode cX6_plan 102 = .ok (.iconst 0, 1) := by decide +kernel
theorem dX6_plan_103 : decode cX6_plan 103 = .ok (.invokestatic 92, 3) := by decide +kernel
theorem dX6_plan_106 : decode cX6_plan 106 = .ok (.iload 8, 2) := by decide +kernel
theorem dX6_plan_108 : decode cX6_plan 108 = .ok (.iload_n 3, 1) := by decide +kernel
theorem dX6_plan_109 : decode cX6_plan 109 = .ok (.if_icmp .gt 16, 3) := by decide +kernel
theorem dX6_plan_112 : decode cX6_plan 112 = .ok (.aload_n 0, 1) := by decide +kernel
theorem dX6_plan_113 : decode cX6_plan 113 = .ok (.getfield 71, 3) := by decide +kernel
theorem dX6_plan_116 : decode cX6_plan 116 = .ok (.bipush 24, 2) := by decide +kernel
theorem dX6_plan_118 : decode cX6_plan 118 = .ok (.if_icmp .ge 7, 3) := by decide +kernel
theorem dX6_plan_121 : decode cX6_plan 121 = .ok (.iconst 1, 1) := by decide +kernel
theorem dX6_plan_122 : decode cX6_plan 122 = .ok (.goto 4, 3) := by decide +kernel
theorem dX6_plan_125 : decode cX6_plan 125 = .ok (.iconst 0, 1) := by decide +kernel
theorem dX6_plan_126 : decode cX6_plan 126 = .ok (.invokestatic 96, 3) := by decide +kernel
theorem dX6_plan_129 : decode cX6_plan 129 = .ok (.aload_n 0, 1) := by decide +kernel
theorem dX6_plan_130 : decode cX6_plan 130 = .ok (.iload_n 1, 1) := by decide +kernel
theorem dX6_plan_131 : decode cX6_plan 131 = .ok (.iload 7, 2) := by decide +kernel
theorem dX6_plan_133 : decode cX6_plan 133 = .ok (.iload_n 2, 1) := by decide +kernel
theorem dX6_plan_134 : decode cX6_plan 134 = .ok (.iload_n 3, 1) := by decide +kernel
theorem dX6_plan_135 : decode cX6_plan 135 = .ok (.iload 4, 2) := by decide +kernel
theorem dX6_plan_137 : decode cX6_plan 137 = .ok (.invokevirtual 162, 3) := by decide +kernel
theorem dX6_plan_140 : decode cX6_plan 140 = .ok (.ireturn, 1) := by decide +kernel
theorem dX6_cancel_0 : decode cX6_cancel 0 = .ok (.aload_n 0, 1) := by decide +kernel
theorem dX6_cancel_1 : decode cX6_cancel 1 = .ok (.iload_n 1, 1) := by decide +kernel
theorem dX6_cancel_2 : decode cX6_cancel 2 = .ok (.invokevirtual 152, 3) := by decide +kernel
theorem dX6_cancel_5 : decode cX6_cancel 5 = .ok (.astore_n 2, 1) := by decide +kernel
theorem dX6_cancel_6 : decode cX6_cancel 6 = .ok (.aload_n 2, 1) := by decide +kernel
theorem dX6_cancel_7 : decode cX6_cancel 7 = .ok (.getfield 166, 3) := by decide +kernel
theorem dX6_cancel_10 : decode cX6_cancel 10 = .ok (.ifCond .ne 7, 3) := by decide +kernel
theorem dX6_cancel_13 : decode cX6_cancel 13 = .ok (.iconst 1, 1) := by decide +kernel
theorem dX6_cancel_14 : decode cX6_cancel 14 = .ok (.goto 4, 3) := by decide +kernel
theorem dX6_cancel_17 : decode cX6_cancel 17 = .ok (.iconst 0, 1) := by decide +kernel
theorem dX6_cancel_18 : decode cX6_cancel 18 = .ok (.invokestatic 96, 3) := by decide +kernel
theorem dX6_cancel_21 : decode cX6_cancel 21 = .ok (.aload_n 0, 1) := by decide +kernel
theorem dX6_cancel_22 : decode cX6_cancel 22 = .ok (.iload_n 1, 1) := by decide +kernel
theorem dX6_cancel_23 : decode cX6_cancel 23 = .ok (.bipush 7, 2) := by decide +kernel
theorem dX6_cancel_25 : decode cX6_cancel 25 = .ok (.invokevirtual 169, 3) := by decide +kernel
theorem dX6_cancel_28 : decode cX6_cancel 28 = .ok (.ireturn, 1) := by decide +kernel
theorem dX6_replace_0 : decode cX6_replace 0 = .ok (.aload_n 0, 1) := by decide +kernel
theorem dX6_replace_1 : decode cX6_replace 1 = .ok (.iload_n 1, 1) := by decide +kernel
theorem dX6_replace_2 : decode cX6_replace 2 = .ok (.invokevirtual 152, 3) := by decide +kernel
theorem dX6_replace_5 : decode cX6_replace 5 = .ok (.astore_n 3, 1) := by decide +kernel
theorem dX6_replace_6 : decode cX6_replace 6 = .ok (.aload_n 0, 1) := by decide +kernel
theorem dX6_replace_7 : decode cX6_replace 7 = .ok (.iload_n 2, 1) := by decide +kernel
theorem dX6_replace_8 : decode cX6_replace 8 = .ok (.invokevirtual 99, 3) := by decide +kernel
theorem dX6_replace_11 : decode cX6_replace 11 = .ok (.astore 4, 2) := by decide +kernel
theorem dX6_replace_13 : decode cX6_replace 13 = .ok (.aload_n 3, 1) := by decide +kernel
theorem dX6_replace_14 : decode cX6_replace 14 = .ok (.getfield 166, 3) := by decide +kernel
theorem dX6_replace_17 : decode cX6_replace 17 = .ok (.iconst 1, 1) := by decide +kernel
theorem dX6_replace_18 : decode cX6_replace 18 = .ok (.if_icmp .ne 62, 3) := by decide +kernel
theorem dX6_replace_21 : decode cX6_replace 21 = .ok (.aload_n 3, 1) := by decide +kernel
theorem dX6_replace_22 : decode cX6_replace 22 = .ok (.getfield 172, 3) := by decide +kernel
theorem dX6_replace_25 : decode cX6_replace 25 = .ok (.ifCond .ne 55, 3) := by decide +kernel
theorem dX6_replace_28 : decode cX6_replace 28 = .ok (.aload_n 0, 1) := by decide +kernel
theorem dX6_replace_29 : decode cX6_replace 29 = .ok (.iload_n 2, 1) := by decide +kernel
theorem dX6_replace_30 : decode cX6_replace 30 = .ok (.invokevirtual 176, 3) := by decide +kernel
theorem dX6_replace_33 : decode cX6_replace 33 = .ok (.ifCond .eq 47, 3) := by decide +kernel
theorem dX6_replace_36 : decode cX6_replace 36 = .ok (.aload_n 0, 1) := by decide +kernel
theorem dX6_replace_37 : decode cX6_replace 37 = .ok (.iload_n 2, 1) := by decide +kernel
theorem dX6_replace_38 : decode cX6_replace 38 = .ok (.aload_n 0, 1) := by decide +kernel
theorem dX6_replace_39 : decode cX6_replace 39 = .ok (.getfield 77, 3) := by decide +kernel
theorem dX6_replace_42 : decode cX6_replace 42 = .ok (.invokevirtual 180, 3) := by decide +kernel
theorem dX6_replace_45 : decode cX6_replace 45 = .ok (.aload_n 3, 1) := by decide +kernel
theorem dX6_replace_46 : decode cX6_replace 46 = .ok (.getfield 183, 3) := by decide +kernel
theorem dX6_replace_49 : decode cX6_replace 49 = .ok (.if_icmp .ne 31, 3) := by decide +kernel
theorem dX6_replace_52 : decode cX6_replace 52 = .ok (.aload 4, 2) := by decide +kernel
theorem dX6_replace_54 : decode cX6_replace 54 = .ok (.getfield 186, 3) := by decide +kernel
theorem dX6_replace_57 : decode cX6_replace 57 = .ok (.aload_n 0, 1) := by decide +kernel
theorem dX6_replace_58 : decode cX6_replace 58 = .ok (.getfield 77, 3) := by decide +kernel
theorem dX6_replace_61 : decode cX6_replace 61 = .ok (.invokevirtual 189, 3) := by decide +kernel
theorem dX6_replace_64 : decode cX6_replace 64 = .ok (.ifCond .ne 16, 3) := by decide +kernel
theorem dX6_replace_67 : decode cX6_replace 67 = .ok (.aload_n 0, 1) := by decide +kernel
theorem dX6_replace_68 : decode cX6_replace 68 = .ok (.getfield 71, 3) := by decide +kernel
theorem dX6_replace_71 : decode cX6_replace 71 = .ok (.bipush 24, 2) := by decide +kernel
theorem dX6_replace_73 : decode cX6_replace 73 = .ok (.if_icmp .ge 7, 3) := by decide +kernel
theorem dX6_replace_76 : decode cX6_replace 76 = .ok (.iconst 1, 1) := by decide +kernel
theorem dX6_replace_77 : decode cX6_replace 77 = .ok (.goto 4, 3) := by decide +kernel
theorem dX6_replace_80 : decode cX6_replace 80 = .ok (.iconst 0, 1) := by decide +kernel
theorem dX6_replace_81 : decode cX6_replace 81 = .ok (.invokestatic 96, 3) := by decide +kernel
theorem dX6_replace_84 : decode cX6_replace 84 = .ok (.aload_n 3, 1) := by decide +kernel
theorem dX6_replace_85 : decode cX6_replace 85 = .ok (.iconst 1, 1) := by decide +kernel
theorem dX6_replace_86 : decode cX6_replace 86 = .ok (.putfield 172, 3) := by decide +kernel
theorem dX6_replace_89 : decode cX6_replace 89 = .ok (.aload_n 0, 1) := by decide +kernel
theorem dX6_replace_90 : decode cX6_replace 90 = .ok (.iload_n 2, 1) := by decide +kernel
theorem dX6_replace_91 : decode cX6_replace 91 = .ok (.aload_n 3, 1) := by decide +kernel
theorem dX6_replace_92 : decode cX6_replace 92 = .ok (.getfield 183, 3) := by decide +kernel
theorem dX6_replace_95 : decode cX6_replace 95 = .ok (.aload_n 3, 1) := by decide +kernel
theorem dX6_replace_96 : decode cX6_replace 96 = .ok (.getfield 156, 3) := by decide +kernel
theorem dX6_replace_99 : decode cX6_replace 99 = .ok (.aload_n 0, 1) := by decide +kernel
theorem dX6_replace_100 : decode cX6_replace 100 = .ok (.getfield 77, 3) := by decide +kernel
theorem dX6_replace_103 : decode cX6_replace 103 = .ok (.aload_n 3, 1) := by decide +kernel
theorem dX6_replace_104 : decode cX6_replace 104 = .ok (.getfield 192, 3) := by decide +kernel
theorem dX6_replace_107 : decode cX6_replace 107 = .ok (.invokevirtual 162, 3) := by decide +kernel
theorem dX6_replace_110 : decode cX6_replace 110 = .ok (.ireturn, 1) := by decide +kernel
theorem dX6_pass_0 : decode cX6_pass 0 = .ok (.iload_n 1, 1) := by decide +kernel
theorem dX6_pass_1 : decode cX6_pass 1 = .ok (.iconst 1, 1) := by decide +kernel
theorem dX6_pass_2 : decode cX6_pass 2 = .ok (.bipush 48, 2) := by decide +kernel
theorem dX6_pass_4 : decode cX6_pass 4 = .ok (.invokestatic 88, 3) := by decide +kernel
theorem dX6_pass_7 : decode cX6_pass 7 = .ok (.invokestatic 92, 3) := by decide +kernel
theorem dX6_pass_10 : decode cX6_pass 10 = .ok (.aload_n 0, 1) := by decide +kernel
theorem dX6_pass_11 : decode cX6_pass 11 = .ok (.getfield 77, 3) := by decide +kernel
theorem dX6_pass_14 : decode cX6_pass 14 = .ok (.iload_n 1, 1) := by decide +kernel
theorem dX6_pass_15 : decode cX6_pass 15 = .ok (.iadd, 1) := by decide +kernel
theorem dX6_pass_16 : decode cX6_pass 16 = .ok (.sipush 9000, 3) := by decide +kernel
theorem dX6_pass_19 : decode cX6_pass 19 = .ok (.if_icmp .gt 7, 3) := by decide +kernel
theorem dX6_pass_22 : decode cX6_pass 22 = .ok (.iconst 1, 1) := by decide +kernel
theorem dX6_pass_23 : decode cX6_pass 23 = .ok (.goto 4, 3) := by decide +kernel
theorem dX6_pass_26 : decode cX6_pass 26 = .ok (.iconst 0, 1) := by decide +kernel
theorem dX6_pass_27 : decode cX6_pass 27 = .ok (.invokestatic 96, 3) := by decide +kernel
theorem dX6_pass_30 : decode cX6_pass 30 = .ok (.iconst 0, 1) := by decide +kernel
theorem dX6_pass_31 : decode cX6_pass 31 = .ok (.istore_n 2, 1) := by decide +kernel
theorem dX6_pass_32 : decode cX6_pass 32 = .ok (.iload_n 2, 1) := by decide +kernel
theorem dX6_pass_33 : decode cX6_pass 33 = .ok (.iload_n 1, 1) := by decide +kernel
theorem dX6_pass_34 : decode cX6_pass 34 = .ok (.if_icmp .ge 40, 3) := by decide +kernel
theorem dX6_pass_37 : decode cX6_pass 37 = .ok (.iconst 0, 1) := by decide +kernel
theorem dX6_pass_38 : decode cX6_pass 38 = .ok (.istore_n 3, 1) := by decide +kernel
theorem dX6_pass_39 : decode cX6_pass 39 = .ok (.iload_n 3, 1) := by decide +kernel
theorem dX6_pass_40 : decode cX6_pass 40 = .ok (.aload_n 0, 1) := by decide +kernel
theorem dX6_pass_41 : decode cX6_pass 41 = .ok (.getfield 71, 3) := by decide +kernel
theorem dX6_pass_44 : decode cX6_pass 44 = .ok (.if_icmp .ge 14, 3) := by decide +kernel
theorem dX6_pass_47 : decode cX6_pass 47 = .ok (.aload_n 0, 1) := by decide +kernel
theorem dX6_pass_48 : decode cX6_pass 48 = .ok (.iload_n 3, 1) := by decide +kernel
theorem dX6_pass_49 : decode cX6_pass 49 = .ok (.invokevirtual 195, 3) := by decide +kernel
theorem dX6_pass_52 : decode cX6_pass 52 = .ok (.iinc 3 1, 3) := by decide +kernel
theorem dX6_pass_55 : decode cX6_pass 55 = .ok (.goto (-16), 3) := by decide +kernel
theorem dX6_pass_58 : decode cX6_pass 58 = .ok (.aload_n 0, 1) := by decide +kernel
theorem dX6_pass_59 : decode cX6_pass 59 = .ok (.dup, 1) := by decide +kernel
theorem dX6_pass_60 : decode cX6_pass 60 = .ok (.getfield 77, 3) := by decide +kernel
theorem dX6_pass_63 : decode cX6_pass 63 = .ok (.iconst 1, 1) := by decide +kernel
theorem dX6_pass_64 : decode cX6_pass 64 = .ok (.iadd, 1) := by decide +kernel
theorem dX6_pass_65 : decode cX6_pass 65 = .ok (.putfield 77, 3) := by decide +kernel
theorem dX6_pass_68 : decode cX6_pass 68 = .ok (.iinc 2 1, 3) := by decide +kernel
theorem dX6_pass_71 : decode cX6_pass 71 = .ok (.goto (-39), 3) := by decide +kernel
theorem dX6_pass_74 : decode cX6_pass 74 = .ok (.aload_n 0, 1) := by decide +kernel
theorem dX6_pass_75 : decode cX6_pass 75 = .ok (.getfield 77, 3) := by decide +kernel
theorem dX6_pass_78 : decode cX6_pass 78 = .ok (.ireturn, 1) := by decide +kernel
theorem dX6_now_0 : decode cX6_now 0 = .ok (.aload_n 0, 1) := by decide +kernel
theorem dX6_now_1 : decode cX6_now 1 = .ok (.getfield 77, 3) := by decide +kernel
theorem dX6_now_4 : decode cX6_now 4 = .ok (.ireturn, 1) := by decide +kernel
theorem dX6_state_0 : decode cX6_state 0 = .ok (.aload_n 0, 1) := by decide +kernel
theorem dX6_state_1 : decode cX6_state 1 = .ok (.iload_n 1, 1) := by decide +kernel
theorem dX6_state_2 : decode cX6_state 2 = .ok (.invokevirtual 152, 3) := by decide +kernel
theorem dX6_state_5 : decode cX6_state 5 = .ok (.astore_n 2, 1) := by decide +kernel
theorem dX6_state_6 : decode cX6_state 6 = .ok (.aload_n 2, 1) := by decide +kernel
theorem dX6_state_7 : decode cX6_state 7 = .ok (.getfield 166, 3) := by decide +kernel
theorem dX6_state_10 : decode cX6_state 10 = .ok (.bipush 10, 2) := by decide +kernel
theorem dX6_state_12 : decode cX6_state 12 = .ok (.aload_n 2, 1) := by decide +kernel
theorem dX6_state_13 : decode cX6_state 13 = .ok (.getfield 199, 3) := by decide +kernel
theorem dX6_state_16 : decode cX6_state 16 = .ok (.imul, 1) := by decide +kernel
theorem dX6_state_17 : decode cX6_state 17 = .ok (.iadd, 1) := by decide +kernel
theorem dX6_state_18 : decode cX6_state 18 = .ok (.ireturn, 1) := by decide +kernel
theorem dX6_ends_0 : decode cX6_ends 0 = .ok (.aload_n 0, 1) := by decide +kernel
theorem dX6_ends_1 : decode cX6_ends 1 = .ok (.iload_n 1, 1) := by decide +kernel
theorem dX6_ends_2 : decode cX6_ends 2 = .ok (.invokevirtual 152, 3) := by decide +kernel
theorem dX6_ends_5 : decode cX6_ends 5 = .ok (.getfield 159, 3) := by decide +kernel
theorem dX6_ends_8 : decode cX6_ends 8 = .ok (.ireturn, 1) := by decide +kernel
theorem dX6_busAfter_0 : decode cX6_busAfter 0 = .ok (.aload_n 0, 1) := by decide +kernel
theorem dX6_busAfter_1 : decode cX6_busAfter 1 = .ok (.iload_n 1, 1) := by decide +kernel
theorem dX6_busAfter_2 : decode cX6_busAfter 2 = .ok (.invokevirtual 152, 3) := by decide +kernel
theorem dX6_busAfter_5 : decode cX6_busAfter 5 = .ok (.astore_n 2, 1) := by decide +kernel
theorem dX6_busAfter_6 : decode cX6_busAfter 6 = .ok (.aload_n 2, 1) := by decide +kernel
theorem dX6_busAfter_7 : decode cX6_busAfter 7 = .ok (.getfield 156, 3) := by decide +kernel
theorem dX6_busAfter_10 : decode cX6_busAfter 10 = .ok (.bipush 6, 2) := by decide +kernel
theorem dX6_busAfter_12 : decode cX6_busAfter 12 = .ok (.invokestatic 84, 3) := by decide +kernel
theorem dX6_busAfter_15 : decode cX6_busAfter 15 = .ok (.aload_n 0, 1) := by decide +kernel
theorem dX6_busAfter_16 : decode cX6_busAfter 16 = .ok (.getfield 37, 3) := by decide +kernel
theorem dX6_busAfter_19 : decode cX6_busAfter 19 = .ok (.aload_n 2, 1) := by decide +kernel
theorem dX6_busAfter_20 : decode cX6_busAfter 20 = .ok (.getfield 156, 3) := by decide +kernel
theorem dX6_busAfter_23 : decode cX6_busAfter 23 = .ok (.iaload, 1) := by decide +kernel
theorem dX6_busAfter_24 : decode cX6_busAfter 24 = .ok (.istore_n 3, 1) := by decide +kernel
theorem dX6_busAfter_25 : decode cX6_busAfter 25 = .ok (.aload_n 2, 1) := by decide +kernel
theorem dX6_busAfter_26 : decode cX6_busAfter 26 = .ok (.getfield 166, 3) := by decide +kernel
theorem dX6_busAfter_29 : decode cX6_busAfter 29 = .ok (.iconst 2, 1) := by decide +kernel
theorem dX6_busAfter_30 : decode cX6_busAfter 30 = .ok (.if_icmp .ne 8, 3) := by decide +kernel
theorem dX6_busAfter_33 : decode cX6_busAfter 33 = .ok (.iload_n 3, 1) := by decide +kernel
theorem dX6_busAfter_34 : decode cX6_busAfter 34 = .ok (.iconst 1, 1) := by decide +kernel
theorem dX6_busAfter_35 : decode cX6_busAfter 35 = .ok (.if_icmp .ge 5, 3) := by decide +kernel
theorem dX6_busAfter_38 : decode cX6_busAfter 38 = .ok (.iconst (-1), 1) := by decide +kernel
theorem dX6_busAfter_39 : decode cX6_busAfter 39 = .ok (.ireturn, 1) := by decide +kernel
theorem dX6_busAfter_40 : decode cX6_busAfter 40 = .ok (.aload_n 0, 1) := by decide +kernel
theorem dX6_busAfter_41 : decode cX6_busAfter 41 = .ok (.getfield 40, 3) := by decide +kernel
theorem dX6_busAfter_44 : decode cX6_busAfter 44 = .ok (.aload_n 2, 1) := by decide +kernel
theorem dX6_busAfter_45 : decode cX6_busAfter 45 = .ok (.getfield 156, 3) := by decide +kernel
theorem dX6_busAfter_48 : decode cX6_busAfter 48 = .ok (.iaload, 1) := by decide +kernel
theorem dX6_busAfter_49 : decode cX6_busAfter 49 = .ok (.aload_n 2, 1) := by decide +kernel
theorem dX6_busAfter_50 : decode cX6_busAfter 50 = .ok (.getfield 159, 3) := by decide +kernel
theorem dX6_busAfter_53 : decode cX6_busAfter 53 = .ok (.isub, 1) := by decide +kernel
theorem dX6_busAfter_54 : decode cX6_busAfter 54 = .ok (.iload_n 3, 1) := by decide +kernel
theorem dX6_busAfter_55 : decode cX6_busAfter 55 = .ok (.invokestatic 202, 3) := by decide +kernel
theorem dX6_busAfter_58 : decode cX6_busAfter 58 = .ok (.ireturn, 1) := by decide +kernel
theorem dX6_place_0 : decode cX6_place 0 = .ok (.iload_n 1, 1) := by decide +kernel
theorem dX6_place_1 : decode cX6_place 1 = .ok (.aload_n 0, 1) := by decide +kernel
theorem dX6_place_2 : decode cX6_place 2 = .ok (.getfield 64, 3) := by decide +kernel
theorem dX6_place_5 : decode cX6_place 5 = .ok (.invokestatic 84, 3) := by decide +kernel
theorem dX6_place_8 : decode cX6_place 8 = .ok (.aload_n 0, 1) := by decide +kernel
theorem dX6_place_9 : decode cX6_place 9 = .ok (.iload_n 1, 1) := by decide +kernel
theorem dX6_place_10 : decode cX6_place 10 = .ok (.aload_n 0, 1) := by decide +kernel
theorem dX6_place_11 : decode cX6_place 11 = .ok (.getfield 77, 3) := by decide +kernel
theorem dX6_place_14 : decode cX6_place 14 = .ok (.invokevirtual 180, 3) := by decide +kernel
theorem dX6_place_17 : decode cX6_place 17 = .ok (.ireturn, 1) := by decide +kernel
theorem dX6_placeByLine_0 : decode cX6_placeByLine 0 = .ok (.iload_n 1, 1) := by decide +kernel
theorem dX6_placeByLine_1 : decode cX6_placeByLine 1 = .ok (.aload_n 0, 1) := by decide +kernel
theorem dX6_placeByLine_2 : decode cX6_placeByLine 2 = .ok (.getfield 64, 3) := by decide +kernel
theorem dX6_placeByLine_5 : decode cX6_placeByLine 5 = .ok (.invokestatic 84, 3) := by decide +kernel
theorem dX6_placeByLine_8 : decode cX6_placeByLine 8 = .ok (.iload_n 2, 1) := by decide +kernel
theorem dX6_placeByLine_9 : decode cX6_placeByLine 9 = .ok (.iconst 0, 1) := by decide +kernel
theorem dX6_placeByLine_10 : decode cX6_placeByLine 10 = .ok (.aload_n 0, 1) := by decide +kernel
theorem dX6_placeByLine_11 : decode cX6_placeByLine 11 = .ok (.getfield 77, 3) := by decide +kernel
theorem dX6_placeByLine_14 : decode cX6_placeByLine 14 = .ok (.invokestatic 88, 3) := by decide +kernel
theorem dX6_placeByLine_17 : decode cX6_placeByLine 17 = .ok (.invokestatic 92, 3) := by decide +kernel
theorem dX6_placeByLine_20 : decode cX6_placeByLine 20 = .ok (.aload_n 0, 1) := by decide +kernel
theorem dX6_placeByLine_21 : decode cX6_placeByLine 21 = .ok (.iload_n 1, 1) := by decide +kernel
theorem dX6_placeByLine_22 : decode cX6_placeByLine 22 = .ok (.iload_n 2, 1) := by decide +kernel
theorem dX6_placeByLine_23 : decode cX6_placeByLine 23 = .ok (.invokevirtual 180, 3) := by decide +kernel
theorem dX6_placeByLine_26 : decode cX6_placeByLine 26 = .ok (.ireturn, 1) := by decide +kernel
theorem dX6_fuel_0 : decode cX6_fuel 0 = .ok (.aload_n 0, 1) := by decide +kernel
theorem dX6_fuel_1 : decode cX6_fuel 1 = .ok (.iload_n 1, 1) := by decide +kernel
theorem dX6_fuel_2 : decode cX6_fuel 2 = .ok (.invokevirtual 99, 3) := by decide +kernel
theorem dX6_fuel_5 : decode cX6_fuel 5 = .ok (.getfield 121, 3) := by decide +kernel
theorem dX6_fuel_8 : decode cX6_fuel 8 = .ok (.ireturn, 1) := by decide +kernel
theorem dX6_book_0 : decode cX6_book 0 = .ok (.iload_n 1, 1) := by decide +kernel
theorem dX6_book_1 : decode cX6_book 1 = .ok (.bipush 10, 2) := by decide +kernel
theorem dX6_book_3 : decode cX6_book 3 = .ok (.invokestatic 84, 3) := by decide +kernel
theorem dX6_book_6 : decode cX6_book 6 = .ok (.aload_n 0, 1) := by decide +kernel
theorem dX6_book_7 : decode cX6_book 7 = .ok (.iload_n 2, 1) := by decide +kernel
theorem dX6_book_8 : decode cX6_book 8 = .ok (.invokevirtual 152, 3) := by decide +kernel
theorem dX6_book_11 : decode cX6_book 11 = .ok (.astore 7, 2) := by decide +kernel
theorem dX6_book_13 : decode cX6_book 13 = .ok (.iload_n 3, 1) := by decide +kernel
theorem dX6_book_14 : decode cX6_book 14 = .ok (.iload 4, 2) := by decide +kernel
theorem dX6_book_16 : decode cX6_book 16 = .ok (.iload 5, 2) := by decide +kernel
theorem dX6_book_18 : decode cX6_book 18 = .ok (.iload 6, 2) := by decide +kernel
theorem dX6_book_20 : decode cX6_book 20 = .ok (.invokestatic 207, 3) := by decide +kernel
theorem dX6_book_23 : decode cX6_book 23 = .ok (.invokestatic 92, 3) := by decide +kernel
theorem dX6_book_26 : decode cX6_book 26 = .ok (.aload 7, 2) := by decide +kernel
theorem dX6_book_28 : decode cX6_book 28 = .ok (.getfield 166, 3) := by decide +kernel
theorem dX6_book_31 : decode cX6_book 31 = .ok (.ifCond .ne 16, 3) := by decide +kernel
theorem dX6_book_34 : decode cX6_book 34 = .ok (.aload_n 0, 1) := by decide +kernel
theorem dX6_book_35 : decode cX6_book 35 = .ok (.getfield 74, 3) := by decide +kernel
theorem dX6_book_38 : decode cX6_book 38 = .ok (.bipush 40, 2) := by decide +kernel
theorem dX6_book_40 : decode cX6_book 40 = .ok (.if_icmp .ge 7, 3) := by decide +kernel
theorem dX6_book_43 : decode cX6_book 43 = .ok (.iconst 1, 1) := by decide +kernel
theorem dX6_book_44 : decode cX6_book 44 = .ok (.goto 4, 3) := by decide +kernel
theorem dX6_book_47 : decode cX6_book 47 = .ok (.iconst 0, 1) := by decide +kernel
theorem dX6_book_48 : decode cX6_book 48 = .ok (.invokestatic 96, 3) := by decide +kernel
theorem dX6_book_51 : decode cX6_book 51 = .ok (.aload_n 0, 1) := by decide +kernel
theorem dX6_book_52 : decode cX6_book 52 = .ok (.getfield 74, 3) := by decide +kernel
theorem dX6_book_55 : decode cX6_book 55 = .ok (.istore 8, 2) := by decide +kernel
theorem dX6_book_57 : decode cX6_book 57 = .ok (.aload_n 0, 1) := by decide +kernel
theorem dX6_book_58 : decode cX6_book 58 = .ok (.dup, 1) := by decide +kernel
theorem dX6_book_59 : decode cX6_book 59 = .ok (.getfield 74, 3) := by decide +kernel
theorem dX6_book_62 : decode cX6_book 62 = .ok (.iconst 1, 1) := by decide +kernel
theorem dX6_book_63 : decode cX6_book 63 = .ok (.iadd, 1) := by decide +kernel
theorem dX6_book_64 : decode cX6_book 64 = .ok (.putfield 74, 3) := by decide +kernel
theorem dX6_book_67 : decode cX6_book 67 = .ok (.aload_n 0, 1) := by decide +kernel
theorem dX6_book_68 : decode cX6_book 68 = .ok (.iload 8, 2) := by decide +kernel
theorem dX6_book_70 : decode cX6_book 70 = .ok (.invokevirtual 211, 3) := by decide +kernel
theorem dX6_book_73 : decode cX6_book 73 = .ok (.astore 9, 2) := by decide +kernel
theorem dX6_book_75 : decode cX6_book 75 = .ok (.aload 9, 2) := by decide +kernel
theorem dX6_book_77 : decode cX6_book 77 = .ok (.iload_n 2, 1) := by decide +kernel
theorem dX6_book_78 : decode cX6_book 78 = .ok (.putfield 215, 3) := by decide +kernel
theorem dX6_book_81 : decode cX6_book 81 = .ok (.aload 9, 2) := by decide +kernel
theorem dX6_book_83 : decode cX6_book 83 = .ok (.iload_n 3, 1) := by decide +kernel
theorem dX6_book_84 : decode cX6_book 84 = .ok (.putfield 218, 3) := by decide +kernel
theorem dX6_book_87 : decode cX6_book 87 = .ok (.aload 9, 2) := by decide +kernel
theorem dX6_book_89 : decode cX6_book 89 = .ok (.iload 4, 2) := by decide +kernel
theorem dX6_book_91 : decode cX6_book 91 = .ok (.putfield 221, 3) := by decide +kernel
theorem dX6_book_94 : decode cX6_book 94 = .ok (.aload 9, 2) := by decide +kernel
theorem dX6_book_96 : decode cX6_book 96 = .ok (.iload 5, 2) := by decide +kernel
theorem dX6_book_98 : decode cX6_book 98 = .ok (.putfield 224, 3) := by decide +kernel
theorem dX6_book_101 : decode cX6_book 101 = .ok (.aload 9, 2) := by decide +kernel
theorem dX6_book_103 : decode cX6_book 103 = .ok (.iload 6, 2) := by decide +kernel
theorem dX6_book_105 : decode cX6_book 105 = .ok (.putfield 227, 3) := by decide +kernel
theorem dX6_book_108 : decode cX6_book 108 = .ok (.aload 9, 2) := by decide +kernel
theorem dX6_book_110 : decode cX6_book 110 = .ok (.aload_n 0, 1) := by decide +kernel
theorem dX6_book_111 : decode cX6_book 111 = .ok (.getfield 33, 3) := by decide +kernel
theorem dX6_book_114 : decode cX6_book 114 = .ok (.iload_n 1, 1) := by decide +kernel
theorem dX6_book_115 : decode cX6_book 115 = .ok (.iaload, 1) := by decide +kernel
theorem dX6_book_116 : decode cX6_book 116 = .ok (.aload 7, 2) := by decide +kernel
theorem dX6_book_118 : decode cX6_book 118 = .ok (.getfield 183, 3) := by decide +kernel
theorem dX6_book_121 : decode cX6_book 121 = .ok (.if_icmp .eq 17, 3) := by decide +kernel
theorem dX6_book_124 : decode cX6_book 124 = .ok (.aload_n 0, 1) := by decide +kernel
theorem dX6_book_125 : decode cX6_book 125 = .ok (.getfield 33, 3) := by decide +kernel
theorem dX6_book_128 : decode cX6_book 128 = .ok (.iload_n 1, 1) := by decide +kernel
theorem dX6_book_129 : decode cX6_book 129 = .ok (.iaload, 1) := by decide +kernel
theorem dX6_book_130 : decode cX6_book 130 = .ok (.aload 7, 2) := by decide +kernel
theorem dX6_book_132 : decode cX6_book 132 = .ok (.getfield 156, 3) := by decide +kernel
theorem dX6_book_135 : decode cX6_book 135 = .ok (.if_icmp .ne 7, 3) := by decide +kernel
theorem dX6_book_138 : decode cX6_book 138 = .ok (.iconst 1, 1) := by decide +kernel
theorem dX6_book_139 : decode cX6_book 139 = .ok (.goto 4, 3) := by decide +kernel
theorem dX6_book_142 : decode cX6_book 142 = .ok (.iconst 0, 1) := by decide +kernel
theorem dX6_book_143 : decode cX6_book 143 = .ok (.putfield 230, 3) := by decide +kernel
theorem dX6_book_146 : decode cX6_book 146 = .ok (.aload_n 0, 1) := by decide +kernel
theorem dX6_book_147 : decode cX6_book 147 = .ok (.aload 9, 2) := by decide +kernel
theorem dX6_book_149 : decode cX6_book 149 = .ok (.iload_n 3, 1) := by decide +kernel
theorem dX6_book_150 : decode cX6_book 150 = .ok (.invokestatic 233, 3) := by decide +kernel
theorem dX6_book_153 : decode cX6_book 153 = .ok (.aload 7, 2) := by decide +kernel
theorem dX6_book_155 : decode cX6_book 155 = .ok (.getfield 192, 3) := by decide +kernel
theorem dX6_book_158 : decode cX6_book 158 = .ok (.imul, 1) := by decide +kernel
theorem dX6_book_159 : decode cX6_book 159 = .ok (.invokevirtual 236, 3) := by decide +kernel
theorem dX6_book_162 : decode cX6_book 162 = .ok (.iload 8, 2) := by decide +kernel
theorem dX6_book_164 : decode cX6_book 164 = .ok (.ireturn, 1) := by decide +kernel
theorem dX6_sailingOf_0 : decode cX6_sailingOf 0 = .ok (.aload_n 0, 1) := by decide +kernel
theorem dX6_sailingOf_1 : decode cX6_sailingOf 1 = .ok (.iload_n 1, 1) := by decide +kernel
theorem dX6_sailingOf_2 : decode cX6_sailingOf 2 = .ok (.invokevirtual 211, 3) := by decide +kernel
theorem dX6_sailingOf_5 : decode cX6_sailingOf 5 = .ok (.getfield 215, 3) := by decide +kernel
theorem dX6_sailingOf_8 : decode cX6_sailingOf 8 = .ok (.ireturn, 1) := by decide +kernel
theorem dX6_lane_0 : decode cX6_lane 0 = .ok (.aload_n 0, 1) := by decide +kernel
theorem dX6_lane_1 : decode cX6_lane 1 = .ok (.iload_n 1, 1) := by decide +kernel
theorem dX6_lane_2 : decode cX6_lane 2 = .ok (.invokevirtual 211, 3) := by decide +kernel
theorem dX6_lane_5 : decode cX6_lane 5 = .ok (.getfield 240, 3) := by decide +kernel
theorem dX6_lane_8 : decode cX6_lane 8 = .ok (.ireturn, 1) := by decide +kernel
theorem dX6_paid_0 : decode cX6_paid 0 = .ok (.aload_n 0, 1) := by decide +kernel
theorem dX6_paid_1 : decode cX6_paid 1 = .ok (.iload_n 1, 1) := by decide +kernel
theorem dX6_paid_2 : decode cX6_paid 2 = .ok (.invokevirtual 211, 3) := by decide +kernel
theorem dX6_paid_5 : decode cX6_paid 5 = .ok (.getfield 243, 3) := by decide +kernel
theorem dX6_paid_8 : decode cX6_paid 8 = .ok (.ireturn, 1) := by decide +kernel
theorem dX6_taken_0 : decode cX6_taken 0 = .ok (.iload_n 1, 1) := by decide +kernel
theorem dX6_taken_1 : decode cX6_taken 1 = .ok (.aload_n 0, 1) := by decide +kernel
theorem dX6_taken_2 : decode cX6_taken 2 = .ok (.getfield 71, 3) := by decide +kernel
theorem dX6_taken_5 : decode cX6_taken 5 = .ok (.invokestatic 84, 3) := by decide +kernel
theorem dX6_taken_8 : decode cX6_taken 8 = .ok (.iconst 0, 1) := by decide +kernel
theorem dX6_taken_9 : decode cX6_taken 9 = .ok (.istore_n 2, 1) := by decide +kernel
theorem dX6_taken_10 : decode cX6_taken 10 = .ok (.iconst 0, 1) := by decide +kernel
theorem dX6_taken_11 : decode cX6_taken 11 = .ok (.istore_n 3, 1) := by decide +kernel
theorem dX6_taken_12 : decode cX6_taken 12 = .ok (.iload_n 3, 1) := by decide +kernel
theorem dX6_taken_13 : decode cX6_taken 13 = .ok (.aload_n 0, 1) := by decide +kernel
theorem dX6_taken_14 : decode cX6_taken 14 = .ok (.getfield 74, 3) := by decide +kernel
theorem dX6_taken_17 : decode cX6_taken 17 = .ok (.if_icmp .ge 36, 3) := by decide +kernel
theorem dX6_taken_20 : decode cX6_taken 20 = .ok (.aload_n 0, 1) := by decide +kernel
theorem dX6_taken_21 : decode cX6_taken 21 = .ok (.iload_n 3, 1) := by decide +kernel
theorem dX6_taken_22 : decode cX6_taken 22 = .ok (.invokevirtual 211, 3) := by decide +kernel
theorem dX6_taken_25 : decode cX6_taken 25 = .ok (.astore 4, 2) := by decide +kernel
theorem dX6_taken_27 : decode cX6_taken 27 = .ok (.aload 4, 2) := by decide +kernel
theorem dX6_taken_29 : decode cX6_taken 29 = .ok (.getfield 215, 3) := by decide +kernel
theorem dX6_taken_32 : decode cX6_taken 32 = .ok (.iload_n 1, 1) := by decide +kernel
theorem dX6_taken_33 : decode cX6_taken 33 = .ok (.if_icmp .ne 14, 3) := by decide +kernel
theorem dX6_taken_36 : decode cX6_taken 36 = .ok (.aload 4, 2) := by decide +kernel
theorem dX6_taken_38 : decode cX6_taken 38 = .ok (.getfield 246, 3) := by decide +kernel
theorem dX6_taken_41 : decode cX6_taken 41 = .ok (.ifCond .eq 6, 3) := by decide +kernel
theorem dX6_taken_44 : decode cX6_taken 44 = .ok (.iinc 2 1, 3) := by decide +kernel
theorem dX6_taken_47 : decode cX6_taken 47 = .ok (.iinc 3 1, 3) := by decide +kernel
theorem dX6_taken_50 : decode cX6_taken 50 = .ok (.goto (-38), 3) := by decide +kernel
theorem dX6_taken_53 : decode cX6_taken 53 = .ok (.iload_n 2, 1) := by decide +kernel
theorem dX6_taken_54 : decode cX6_taken 54 = .ok (.ireturn, 1) := by decide +kernel
theorem dX6_list_0 : decode cX6_list 0 = .ok (.aload_n 0, 1) := by decide +kernel
theorem dX6_list_1 : decode cX6_list 1 = .ok (.iload_n 1, 1) := by decide +kernel
theorem dX6_list_2 : decode cX6_list 2 = .ok (.invokevirtual 152, 3) := by decide +kernel
theorem dX6_list_5 : decode cX6_list 5 = .ok (.astore_n 2, 1) := by decide +kernel
theorem dX6_list_6 : decode cX6_list 6 = .ok (.aload_n 2, 1) := by decide +kernel
theorem dX6_list_7 : decode cX6_list 7 = .ok (.getfield 166, 3) := by decide +kernel
theorem dX6_list_10 : decode cX6_list 10 = .ok (.iconst 2, 1) := by decide +kernel
theorem dX6_list_11 : decode cX6_list 11 = .ok (.if_icmp .eq 11, 3) := by decide +kernel
theorem dX6_list_14 : decode cX6_list 14 = .ok (.new 249, 3) := by decide +kernel
theorem dX6_list_17 : decode cX6_list 17 = .ok (.dup, 1) := by decide +kernel
theorem dX6_list_18 : decode cX6_list 18 = .ok (.invokespecial 251, 3) := by decide +kernel
theorem dX6_list_21 : decode cX6_list 21 = .ok (.athrow, 1) := by decide +kernel
theorem dX6_list_22 : decode cX6_list 22 = .ok (.aload_n 2, 1) := by decide +kernel
theorem dX6_list_23 : decode cX6_list 23 = .ok (.getfield 252, 3) := by decide +kernel
theorem dX6_list_26 : decode cX6_list 26 = .ok (.ireturn, 1) := by decide +kernel
theorem dX6_account_0 : decode cX6_account 0 = .ok (.iload_n 1, 1) := by decide +kernel
theorem dX6_account_1 : decode cX6_account 1 = .ok (.iconst 0, 1) := by decide +kernel
theorem dX6_account_2 : decode cX6_account 2 = .ok (.iconst 2, 1) := by decide +kernel
theorem dX6_account_3 : decode cX6_account 3 = .ok (.invokestatic 88, 3) := by decide +kernel
theorem dX6_account_6 : decode cX6_account 6 = .ok (.invokestatic 92, 3) := by decide +kernel
theorem dX6_account_9 : decode cX6_account 9 = .ok (.aload_n 0, 1) := by decide +kernel
theorem dX6_account_10 : decode cX6_account 10 = .ok (.getfield 43, 3) := by decide +kernel
theorem dX6_account_13 : decode cX6_account 13 = .ok (.iload_n 1, 1) := by decide +kernel
theorem dX6_account_14 : decode cX6_account 14 = .ok (.laload, 1) := by decide +kernel
theorem dX6_account_15 : decode cX6_account 15 = .ok (.lreturn, 1) := by decide +kernel
theorem dX6_accountAnew_0 : decode cX6_accountAnew 0 = .ok (.iload_n 1, 1) := by decide +kernel
theorem dX6_accountAnew_1 : decode cX6_accountAnew 1 = .ok (.ifCond .eq 8, 3) := by decide +kernel
theorem dX6_accountAnew_4 : decode cX6_accountAnew 4 = .ok (.iload_n 1, 1) := by decide +kernel
theorem dX6_accountAnew_5 : decode cX6_accountAnew 5 = .ok (.iconst 1, 1) := by decide +kernel
theorem dX6_accountAnew_6 : decode cX6_accountAnew 6 = .ok (.if_icmp .ne 7, 3) := by decide +kernel
theorem dX6_accountAnew_9 : decode cX6_accountAnew 9 = .ok (.iconst 1, 1) := by decide +kernel
theorem dX6_accountAnew_10 : decode cX6_accountAnew 10 = .ok (.goto 4, 3) := by decide +kernel
theorem dX6_accountAnew_13 : decode cX6_accountAnew 13 = .ok (.iconst 0, 1) := by decide +kernel
theorem dX6_accountAnew_14 : decode cX6_accountAnew 14 = .ok (.invokestatic 92, 3) := by decide +kernel
theorem dX6_accountAnew_17 : decode cX6_accountAnew 17 = .ok (.lconst 0, 1) := by decide +kernel
theorem dX6_accountAnew_18 : decode cX6_accountAnew 18 = .ok (.lstore_n 2, 1) := by decide +kernel
theorem dX6_accountAnew_19 : decode cX6_accountAnew 19 = .ok (.iconst 0, 1) := by decide +kernel
theorem dX6_accountAnew_20 : decode cX6_accountAnew 20 = .ok (.istore 4, 2) := by decide +kernel
theorem dX6_accountAnew_22 : decode cX6_accountAnew 22 = .ok (.iload 4, 2) := by decide +kernel
theorem dX6_accountAnew_24 : decode cX6_accountAnew 24 = .ok (.aload_n 0, 1) := by decide +kernel
theorem dX6_accountAnew_25 : decode cX6_accountAnew 25 = .ok (.getfield 74, 3) := by decide +kernel
theorem dX6_accountAnew_28 : decode cX6_accountAnew 28 = .ok (.if_icmp .ge 48, 3) := by decide +kernel
theorem dX6_accountAnew_31 : decode cX6_accountAnew 31 = .ok (.aload_n 0, 1) := by decide +kernel
theorem dX6_accountAnew_32 : decode cX6_accountAnew 32 = .ok (.iload 4, 2) := by decide +kernel
theorem dX6_accountAnew_34 : decode cX6_accountAnew 34 = .ok (.invokevirtual 211, 3) := by decide +kernel
theorem dX6_accountAnew_37 : decode cX6_accountAnew 37 = .ok (.astore 5, 2) := by decide +kernel
theorem dX6_accountAnew_39 : decode cX6_accountAnew 39 = .ok (.aload 5, 2) := by decide +kernel
theorem dX6_accountAnew_41 : decode cX6_accountAnew 41 = .ok (.getfield 215, 3) := by decide +kernel
theorem dX6_accountAnew_44 : decode cX6_accountAnew 44 = .ok (.iconst (-1), 1) := by decide +kernel
theorem dX6_accountAnew_45 : decode cX6_accountAnew 45 = .ok (.if_icmp .eq 25, 3) := by decide +kernel
theorem dX6_accountAnew_48 : decode cX6_accountAnew 48 = .ok (.lload_n 2, 1) := by decide +kernel
theorem dX6_accountAnew_49 : decode cX6_accountAnew 49 = .ok (.iload_n 1, 1) := by decide +kernel
theorem dX6_accountAnew_50 : decode cX6_accountAnew 50 = .ok (.ifCond .ne 12, 3) := by decide +kernel
theorem dX6_accountAnew_53 : decode cX6_accountAnew 53 = .ok (.aload 5, 2) := by decide +kernel
theorem dX6_accountAnew_55 : decode cX6_accountAnew 55 = .ok (.getfield 243, 3) := by decide +kernel
theorem dX6_accountAnew_58 : decode cX6_accountAnew 58 = .ok (.i2l, 1) := by decide +kernel
theorem dX6_accountAnew_59 : decode cX6_accountAnew 59 = .ok (.goto 9, 3) := by decide +kernel
theorem dX6_accountAnew_62 : decode cX6_accountAnew 62 = .ok (.aload 5, 2) := by decide +kernel
theorem dX6_accountAnew_64 : decode cX6_accountAnew 64 = .ok (.getfield 255, 3) := by decide +kernel
theorem dX6_accountAnew_67 : decode cX6_accountAnew 67 = .ok (.i2l, 1) := by decide +kernel
theorem dX6_accountAnew_68 : decode cX6_accountAnew 68 = .ok (.ladd, 1) := by decide +kernel
theorem dX6_accountAnew_69 : decode cX6_accountAnew 69 = .ok (.lstore_n 2, 1) := by decide +kernel
theorem dX6_accountAnew_70 : decode cX6_accountAnew 70 = .ok (.iinc 4 1, 3) := by decide +kernel
theorem dX6_accountAnew_73 : decode cX6_accountAnew 73 = .ok (.goto (-51), 3) := by decide +kernel
theorem dX6_accountAnew_76 : decode cX6_accountAnew 76 = .ok (.lload_n 2, 1) := by decide +kernel
theorem dX6_accountAnew_77 : decode cX6_accountAnew 77 = .ok (.lreturn, 1) := by decide +kernel
theorem dX6_isWithin_0 : decode cX6_isWithin 0 = .ok (.iload_n 1, 1) := by decide +kernel
theorem dX6_isWithin_1 : decode cX6_isWithin 1 = .ok (.iload_n 0, 1) := by decide +kernel
theorem dX6_isWithin_2 : decode cX6_isWithin 2 = .ok (.if_icmp .gt 12, 3) := by decide +kernel
theorem dX6_isWithin_5 : decode cX6_isWithin 5 = .ok (.iload_n 0, 1) := by decide +kernel
theorem dX6_isWithin_6 : decode cX6_isWithin 6 = .ok (.iload_n 2, 1) := by decide +kernel
theorem dX6_isWithin_7 : decode cX6_isWithin 7 = .ok (.if_icmp .gt 7, 3) := by decide +kernel
theorem dX6_isWithin_10 : decode cX6_isWithin 10 = .ok (.iconst 1, 1) := by decide +kernel
theorem dX6_isWithin_11 : decode cX6_isWithin 11 = .ok (.goto 4, 3) := by decide +kernel
theorem dX6_isWithin_14 : decode cX6_isWithin 14 = .ok (.iconst 0, 1) := by decide +kernel
theorem dX6_isWithin_15 : decode cX6_isWithin 15 = .ok (.ireturn, 1) := by decide +kernel
theorem dX6_demandIndex_0 : decode cX6_demandIndex 0 = .ok (.iload_n 0, 1) := by decide +kernel
theorem dX6_demandIndex_1 : decode cX6_demandIndex 1 = .ok (.ifCond .lt 8, 3) := by decide +kernel
theorem dX6_demandIndex_4 : decode cX6_demandIndex 4 = .ok (.iload_n 0, 1) := by decide +kernel
theorem dX6_demandIndex_5 : decode cX6_demandIndex 5 = .ok (.iload_n 1, 1) := by decide +kernel
theorem dX6_demandIndex_6 : decode cX6_demandIndex 6 = .ok (.if_icmp .lt 11, 3) := by decide +kernel
theorem dX6_demandIndex_9 : decode cX6_demandIndex 9 = .ok (.new 258, 3) := by decide +kernel
theorem dX6_demandIndex_12 : decode cX6_demandIndex 12 = .ok (.dup, 1) := by decide +kernel
theorem dX6_demandIndex_13 : decode cX6_demandIndex 13 = .ok (.invokespecial 260, 3) := by decide +kernel
theorem dX6_demandIndex_16 : decode cX6_demandIndex 16 = .ok (.athrow, 1) := by decide +kernel
theorem dX6_demandIndex_17 : decode cX6_demandIndex 17 = .ok (.return_, 1) := by decide +kernel
theorem dX6_demandArgument_0 : decode cX6_demandArgument 0 = .ok (.iload_n 0, 1) := by decide +kernel
theorem dX6_demandArgument_1 : decode cX6_demandArgument 1 = .ok (.ifCond .ne 11, 3) := by decide +kernel
theorem dX6_demandArgument_4 : decode cX6_demandArgument 4 = .ok (.new 261, 3) := by decide +kernel
theorem dX6_demandArgument_7 : decode cX6_demandArgument 7 = .ok (.dup, 1) := by decide +kernel
theorem dX6_demandArgument_8 : decode cX6_demandArgument 8 = .ok (.invokespecial 263, 3) := by decide +kernel
theorem dX6_demandArgument_11 : decode cX6_demandArgument 11 = .ok (.athrow, 1) := by decide +kernel
theorem dX6_demandArgument_12 : decode cX6_demandArgument 12 = .ok (.return_, 1) := by decide +kernel
theorem dX6_demandState_0 : decode cX6_demandState 0 = .ok (.iload_n 0, 1) := by decide +kernel
theorem dX6_demandState_1 : decode cX6_demandState 1 = .ok (.ifCond .ne 11, 3) := by decide +kernel
theorem dX6_demandState_4 : decode cX6_demandState 4 = .ok (.new 264, 3) := by decide +kernel
theorem dX6_demandState_7 : decode cX6_demandState 7 = .ok (.dup, 1) := by decide +kernel
theorem dX6_demandState_8 : decode cX6_demandState 8 = .ok (.invokespecial 266, 3) := by decide +kernel
theorem dX6_demandState_11 : decode cX6_demandState 11 = .ok (.athrow, 1) := by decide +kernel
theorem dX6_demandState_12 : decode cX6_demandState 12 = .ok (.return_, 1) := by decide +kernel
theorem dX6_knownShip_0 : decode cX6_knownShip 0 = .ok (.iload_n 1, 1) := by decide +kernel
theorem dX6_knownShip_1 : decode cX6_knownShip 1 = .ok (.aload_n 0, 1) := by decide +kernel
theorem dX6_knownShip_2 : decode cX6_knownShip 2 = .ok (.getfield 64, 3) := by decide +kernel
theorem dX6_knownShip_5 : decode cX6_knownShip 5 = .ok (.invokestatic 84, 3) := by decide +kernel
theorem dX6_knownShip_8 : decode cX6_knownShip 8 = .ok (.aload_n 0, 1) := by decide +kernel
theorem dX6_knownShip_9 : decode cX6_knownShip 9 = .ok (.getfield 11, 3) := by decide +kernel
theorem dX6_knownShip_12 : decode cX6_knownShip 12 = .ok (.iload_n 1, 1) := by decide +kernel
theorem dX6_knownShip_13 : decode cX6_knownShip 13 = .ok (.aaload, 1) := by decide +kernel
theorem dX6_knownShip_14 : decode cX6_knownShip 14 = .ok (.areturn, 1) := by decide +kernel
theorem dX6_knownCrew_0 : decode cX6_knownCrew 0 = .ok (.iload_n 1, 1) := by decide +kernel
theorem dX6_knownCrew_1 : decode cX6_knownCrew 1 = .ok (.aload_n 0, 1) := by decide +kernel
theorem dX6_knownCrew_2 : decode cX6_knownCrew 2 = .ok (.getfield 68, 3) := by decide +kernel
theorem dX6_knownCrew_5 : decode cX6_knownCrew 5 = .ok (.invokestatic 84, 3) := by decide +kernel
theorem dX6_knownCrew_8 : decode cX6_knownCrew 8 = .ok (.aload_n 0, 1) := by decide +kernel
theorem dX6_knownCrew_9 : decode cX6_knownCrew 9 = .ok (.getfield 17, 3) := by decide +kernel
theorem dX6_knownCrew_12 : decode cX6_knownCrew 12 = .ok (.iload_n 1, 1) := by decide +kernel
theorem dX6_knownCrew_13 : decode cX6_knownCrew 13 = .ok (.aaload, 1) := by decide +kernel
theorem dX6_knownCrew_14 : decode cX6_knownCrew 14 = .ok (.areturn, 1) := by decide +kernel
theorem dX6_knownSailing_0 : decode cX6_knownSailing 0 = .ok (.iload_n 1, 1) := by decide +kernel
theorem dX6_knownSailing_1 : decode cX6_knownSailing 1 = .ok (.aload_n 0, 1) := by decide +kernel
theorem dX6_knownSailing_2 : decode cX6_knownSailing 2 = .ok (.getfield 71, 3) := by decide +kernel
theorem dX6_knownSailing_5 : decode cX6_knownSailing 5 = .ok (.invokestatic 84, 3) := by decide +kernel
theorem dX6_knownSailing_8 : decode cX6_knownSailing 8 = .ok (.aload_n 0, 1) := by decide +kernel
theorem dX6_knownSailing_9 : decode cX6_knownSailing 9 = .ok (.getfield 23, 3) := by decide +kernel
theorem dX6_knownSailing_12 : decode cX6_knownSailing 12 = .ok (.iload_n 1, 1) := by decide +kernel
theorem dX6_knownSailing_13 : decode cX6_knownSailing 13 = .ok (.aaload, 1) := by decide +kernel
theorem dX6_knownSailing_14 : decode cX6_knownSailing 14 = .ok (.areturn, 1) := by decide +kernel
theorem dX6_knownBooking_0 : decode cX6_knownBooking 0 = .ok (.iload_n 1, 1) := by decide +kernel
theorem dX6_knownBooking_1 : decode cX6_knownBooking 1 = .ok (.aload_n 0, 1) := by decide +kernel
theorem dX6_knownBooking_2 : decode cX6_knownBooking 2 = .ok (.getfield 74, 3) := by decide +kernel
theorem dX6_knownBooking_5 : decode cX6_knownBooking 5 = .ok (.invokestatic 84, 3) := by decide +kernel
theorem dX6_knownBooking_8 : decode cX6_knownBooking 8 = .ok (.aload_n 0, 1) := by decide +kernel
theorem dX6_knownBooking_9 : decode cX6_knownBooking 9 = .ok (.getfield 29, 3) := by decide +kernel
theorem dX6_knownBooking_12 : decode cX6_knownBooking 12 = .ok (.iload_n 1, 1) := by decide +kernel
theorem dX6_knownBooking_13 : decode cX6_knownBooking 13 = .ok (.aaload, 1) := by decide +kernel
theorem dX6_knownBooking_14 : decode cX6_knownBooking 14 = .ok (.areturn, 1) := by decide +kernel
theorem dX6_isBookable_0 : decode cX6_isBookable 0 = .ok (.iload_n 0, 1) := by decide +kernel
theorem dX6_isBookable_1 : decode cX6_isBookable 1 = .ok (.ifCond .ne 21, 3) := by decide +kernel
theorem dX6_isBookable_4 : decode cX6_isBookable 4 = .ok (.iload_n 1, 1) := by decide +kernel
theorem dX6_isBookable_5 : decode cX6_isBookable 5 = .ok (.ifCond .ne 15, 3) := by decide +kernel
theorem dX6_isBookable_8 : decode cX6_isBookable 8 = .ok (.iload_n 2, 1) := by decide +kernel
theorem dX6_isBookable_9 : decode cX6_isBookable 9 = .ok (.ifCond .ne 11, 3) := by decide +kernel
theorem dX6_isBookable_12 : decode cX6_isBookable 12 = .ok (.iload_n 3, 1) := by decide +kernel
theorem dX6_isBookable_13 : decode cX6_isBookable 13 = .ok (.ifCond .ne 7, 3) := by decide +kernel
theorem dX6_isBookable_16 : decode cX6_isBookable 16 = .ok (.iconst 1, 1) := by decide +kernel
theorem dX6_isBookable_17 : decode cX6_isBookable 17 = .ok (.goto 4, 3) := by decide +kernel
theorem dX6_isBookable_20 : decode cX6_isBookable 20 = .ok (.iconst 0, 1) := by decide +kernel
theorem dX6_isBookable_21 : decode cX6_isBookable 21 = .ok (.ireturn, 1) := by decide +kernel
theorem dX6_isBookable_22 : decode cX6_isBookable 22 = .ok (.iload_n 0, 1) := by decide +kernel
theorem dX6_isBookable_23 : decode cX6_isBookable 23 = .ok (.iconst 1, 1) := by decide +kernel
theorem dX6_isBookable_24 : decode cX6_isBookable 24 = .ok (.iconst 3, 1) := by decide +kernel
theorem dX6_isBookable_25 : decode cX6_isBookable 25 = .ok (.invokestatic 88, 3) := by decide +kernel
theorem dX6_isBookable_28 : decode cX6_isBookable 28 = .ok (.ifCond .eq 28, 3) := by decide +kernel
theorem dX6_isBookable_31 : decode cX6_isBookable 31 = .ok (.iload_n 1, 1) := by decide +kernel
theorem dX6_isBookable_32 : decode cX6_isBookable 32 = .ok (.iconst 1, 1) := by decide +kernel
theorem dX6_isBookable_33 : decode cX6_isBookable 33 = .ok (.bipush 40, 2) := by decide +kernel
theorem dX6_isBookable_35 : decode cX6_isBookable 35 = .ok (.invokestatic 88, 3) := by decide +kernel
theorem dX6_isBookable_38 : decode cX6_isBookable 38 = .ok (.ifCond .eq 18, 3) := by decide +kernel
theorem dX6_isBookable_41 : decode cX6_isBookable 41 = .ok (.iload_n 2, 1) := by decide +kernel
theorem dX6_isBookable_42 : decode cX6_isBookable 42 = .ok (.iconst 1, 1) := by decide +kernel
theorem dX6_isBookable_43 : decode cX6_isBookable 43 = .ok (.sipush 200, 3) := by decide +kernel
theorem dX6_isBookable_46 : decode cX6_isBookable 46 = .ok (.invokestatic 88, 3) := by decide +kernel
theorem dX6_isBookable_49 : decode cX6_isBookable 49 = .ok (.ifCond .eq 7, 3) := by decide +kernel
theorem dX6_isBookable_52 : decode cX6_isBookable 52 = .ok (.iconst 1, 1) := by decide +kernel
theorem dX6_isBookable_53 : decode cX6_isBookable 53 = .ok (.goto 4, 3) := by decide +kernel
theorem dX6_isBookable_56 : decode cX6_isBookable 56 = .ok (.iconst 0, 1) := by decide +kernel
theorem dX6_isBookable_57 : decode cX6_isBookable 57 = .ok (.ireturn, 1) := by decide +kernel
theorem dX6_spanFor_0 : decode cX6_spanFor 0 = .ok (.iload_n 1, 1) := by decide +kernel
theorem dX6_spanFor_1 : decode cX6_spanFor 1 = .ok (.iconst 2, 1) := by decide +kernel
theorem dX6_spanFor_2 : decode cX6_spanFor 2 = .ok (.if_icmp .ne 12, 3) := by decide +kernel
theorem dX6_spanFor_5 : decode cX6_spanFor 5 = .ok (.aload_n 0, 1) := by decide +kernel
theorem dX6_spanFor_6 : decode cX6_spanFor 6 = .ok (.iload_n 2, 1) := by decide +kernel
theorem dX6_spanFor_7 : decode cX6_spanFor 7 = .ok (.invokevirtual 99, 3) := by decide +kernel
theorem dX6_spanFor_10 : decode cX6_spanFor 10 = .ok (.getfield 186, 3) := by decide +kernel
theorem dX6_spanFor_13 : decode cX6_spanFor 13 = .ok (.areturn, 1) := by decide +kernel
theorem dX6_spanFor_14 : decode cX6_spanFor 14 = .ok (.iload_n 1, 1) := by decide +kernel
theorem dX6_spanFor_15 : decode cX6_spanFor 15 = .ok (.ifCond .eq 8, 3) := by decide +kernel
theorem dX6_spanFor_18 : decode cX6_spanFor 18 = .ok (.iload_n 1, 1) := by decide +kernel
theorem dX6_spanFor_19 : decode cX6_spanFor 19 = .ok (.iconst 1, 1) := by decide +kernel
theorem dX6_spanFor_20 : decode cX6_spanFor 20 = .ok (.if_icmp .ne 7, 3) := by decide +kernel
theorem dX6_spanFor_23 : decode cX6_spanFor 23 = .ok (.iconst 1, 1) := by decide +kernel
theorem dX6_spanFor_24 : decode cX6_spanFor 24 = .ok (.goto 4, 3) := by decide +kernel
theorem dX6_spanFor_27 : decode cX6_spanFor 27 = .ok (.iconst 0, 1) := by decide +kernel
theorem dX6_spanFor_28 : decode cX6_spanFor 28 = .ok (.invokestatic 92, 3) := by decide +kernel
theorem dX6_spanFor_31 : decode cX6_spanFor 31 = .ok (.iload_n 1, 1) := by decide +kernel
theorem dX6_spanFor_32 : decode cX6_spanFor 32 = .ok (.ifCond .ne 10, 3) := by decide +kernel
theorem dX6_spanFor_35 : decode cX6_spanFor 35 = .ok (.aload_n 0, 1) := by decide +kernel
theorem dX6_spanFor_36 : decode cX6_spanFor 36 = .ok (.getfield 50, 3) := by decide +kernel
theorem dX6_spanFor_39 : decode cX6_spanFor 39 = .ok (.goto 7, 3) := by decide +kernel
theorem dX6_spanFor_42 : decode cX6_spanFor 42 = .ok (.aload_n 0, 1) := by decide +kernel
theorem dX6_spanFor_43 : decode cX6_spanFor 43 = .ok (.getfield 54, 3) := by decide +kernel
theorem dX6_spanFor_46 : decode cX6_spanFor 46 = .ok (.areturn, 1) := by decide +kernel
theorem dX6_depthAt_0 : decode cX6_depthAt 0 = .ok (.iconst 3, 1) := by decide +kernel
theorem dX6_depthAt_1 : decode cX6_depthAt 1 = .ok (.iload_n 1, 1) := by decide +kernel
theorem dX6_depthAt_2 : decode cX6_depthAt 2 = .ok (.iconst 2, 1) := by decide +kernel
theorem dX6_depthAt_3 : decode cX6_depthAt 3 = .ok (.iload_n 0, 1) := by decide +kernel
theorem dX6_depthAt_4 : decode cX6_depthAt 4 = .ok (.imul, 1) := by decide +kernel
theorem dX6_depthAt_5 : decode cX6_depthAt 5 = .ok (.iadd, 1) := by decide +kernel
theorem dX6_depthAt_6 : decode cX6_depthAt 6 = .ok (.bipush 12, 2) := by decide +kernel
theorem dX6_depthAt_8 : decode cX6_depthAt 8 = .ok (.irem, 1) := by decide +kernel
theorem dX6_depthAt_9 : decode cX6_depthAt 9 = .ok (.bipush 6, 2) := by decide +kernel
theorem dX6_depthAt_11 : decode cX6_depthAt 11 = .ok (.isub, 1) := by decide +kernel
theorem dX6_depthAt_12 : decode cX6_depthAt 12 = .ok (.invokestatic 267, 3) := by decide +kernel
theorem dX6_depthAt_15 : decode cX6_depthAt 15 = .ok (.iadd, 1) := by decide +kernel
theorem dX6_depthAt_16 : decode cX6_depthAt 16 = .ok (.ireturn, 1) := by decide +kernel
theorem dX6_lastSailing_0 : decode cX6_lastSailing 0 = .ok (.iconst (-1), 1) := by decide +kernel
theorem dX6_lastSailing_1 : decode cX6_lastSailing 1 = .ok (.istore_n 2, 1) := by decide +kernel
theorem dX6_lastSailing_2 : decode cX6_lastSailing 2 = .ok (.iconst 0, 1) := by decide +kernel
theorem dX6_lastSailing_3 : decode cX6_lastSailing 3 = .ok (.istore_n 3, 1) := by decide +kernel
theorem dX6_lastSailing_4 : decode cX6_lastSailing 4 = .ok (.iload_n 3, 1) := by decide +kernel
theorem dX6_lastSailing_5 : decode cX6_lastSailing 5 = .ok (.aload_n 0, 1) := by decide +kernel
theorem dX6_lastSailing_6 : decode cX6_lastSailing 6 = .ok (.getfield 71, 3) := by decide +kernel
theorem dX6_lastSailing_9 : decode cX6_lastSailing 9 = .ok (.if_icmp .ge 36, 3) := by decide +kernel
theorem dX6_lastSailing_12 : decode cX6_lastSailing 12 = .ok (.aload_n 0, 1) := by decide +kernel
theorem dX6_lastSailing_13 : decode cX6_lastSailing 13 = .ok (.iload_n 3, 1) := by decide +kernel
theorem dX6_lastSailing_14 : decode cX6_lastSailing 14 = .ok (.invokevirtual 152, 3) := by decide +kernel
theorem dX6_lastSailing_17 : decode cX6_lastSailing 17 = .ok (.astore 4, 2) := by decide +kernel
theorem dX6_lastSailing_19 : decode cX6_lastSailing 19 = .ok (.aload 4, 2) := by decide +kernel
theorem dX6_lastSailing_21 : decode cX6_lastSailing 21 = .ok (.getfield 270, 3) := by decide +kernel
theorem dX6_lastSailing_24 : decode cX6_lastSailing 24 = .ok (.iload_n 1, 1) := by decide +kernel
theorem dX6_lastSailing_25 : decode cX6_lastSailing 25 = .ok (.if_icmp .ne 14, 3) := by decide +kernel
theorem dX6_lastSailing_28 : decode cX6_lastSailing 28 = .ok (.aload 4, 2) := by decide +kernel
theorem dX6_lastSailing_30 : decode cX6_lastSailing 30 = .ok (.getfield 166, 3) := by decide +kernel
theorem dX6_lastSailing_33 : decode cX6_lastSailing 33 = .ok (.iconst 1, 1) := by decide +kernel
theorem dX6_lastSailing_34 : decode cX6_lastSailing 34 = .ok (.if_icmp .eq 5, 3) := by decide +kernel
theorem dX6_lastSailing_37 : decode cX6_lastSailing 37 = .ok (.iload_n 3, 1) := by decide +kernel
theorem dX6_lastSailing_38 : decode cX6_lastSailing 38 = .ok (.istore_n 2, 1) := by decide +kernel
theorem dX6_lastSailing_39 : decode cX6_lastSailing 39 = .ok (.iinc 3 1, 3) := by decide +kernel
theorem dX6_lastSailing_42 : decode cX6_lastSailing 42 = .ok (.goto (-38), 3) := by decide +kernel
theorem dX6_lastSailing_45 : decode cX6_lastSailing 45 = .ok (.iload_n 2, 1) := by decide +kernel
theorem dX6_lastSailing_46 : decode cX6_lastSailing 46 = .ok (.ireturn, 1) := by decide +kernel
theorem dX6_whereWas_0 : decode cX6_whereWas 0 = .ok (.aload_n 0, 1) := by decide +kernel
theorem dX6_whereWas_1 : decode cX6_whereWas 1 = .ok (.iload_n 1, 1) := by decide +kernel
theorem dX6_whereWas_2 : decode cX6_whereWas 2 = .ok (.invokevirtual 99, 3) := by decide +kernel
theorem dX6_whereWas_5 : decode cX6_whereWas 5 = .ok (.getfield 103, 3) := by decide +kernel
theorem dX6_whereWas_8 : decode cX6_whereWas 8 = .ok (.istore_n 3, 1) := by decide +kernel
theorem dX6_whereWas_9 : decode cX6_whereWas 9 = .ok (.iconst 0, 1) := by decide +kernel
theorem dX6_whereWas_10 : decode cX6_whereWas 10 = .ok (.istore 4, 2) := by decide +kernel
theorem dX6_whereWas_12 : decode cX6_whereWas 12 = .ok (.iload 4, 2) := by decide +kernel
theorem dX6_whereWas_14 : decode cX6_whereWas 14 = .ok (.aload_n 0, 1) := by decide +kernel
theorem dX6_whereWas_15 : decode cX6_whereWas 15 = .ok (.getfield 71, 3) := by decide +kernel
theorem dX6_whereWas_18 : decode cX6_whereWas 18 = .ok (.if_icmp .ge 63, 3) := by decide +kernel
theorem dX6_whereWas_21 : decode cX6_whereWas 21 = .ok (.aload_n 0, 1) := by decide +kernel
theorem dX6_whereWas_22 : decode cX6_whereWas 22 = .ok (.iload 4, 2) := by decide +kernel
theorem dX6_whereWas_24 : decode cX6_whereWas 24 = .ok (.invokevirtual 152, 3) := by decide +kernel
theorem dX6_whereWas_27 : decode cX6_whereWas 27 = .ok (.astore 5, 2) := by decide +kernel
theorem dX6_whereWas_29 : decode cX6_whereWas 29 = .ok (.aload 5, 2) := by decide +kernel
theorem dX6_whereWas_31 : decode cX6_whereWas 31 = .ok (.getfield 270, 3) := by decide +kernel
theorem dX6_whereWas_34 : decode cX6_whereWas 34 = .ok (.iload_n 1, 1) := by decide +kernel
theorem dX6_whereWas_35 : decode cX6_whereWas 35 = .ok (.if_icmp .ne 40, 3) := by decide +kernel
theorem dX6_whereWas_38 : decode cX6_whereWas 38 = .ok (.aload 5, 2) := by decide +kernel
theorem dX6_whereWas_40 : decode cX6_whereWas 40 = .ok (.getfield 166, 3) := by decide +kernel
theorem dX6_whereWas_43 : decode cX6_whereWas 43 = .ok (.iconst 2, 1) := by decide +kernel
theorem dX6_whereWas_44 : decode cX6_whereWas 44 = .ok (.if_icmp .ne 31, 3) := by decide +kernel
theorem dX6_whereWas_47 : decode cX6_whereWas 47 = .ok (.aload 5, 2) := by decide +kernel
theorem dX6_whereWas_49 : decode cX6_whereWas 49 = .ok (.getfield 271, 3) := by decide +kernel
theorem dX6_whereWas_52 : decode cX6_whereWas 52 = .ok (.iload_n 2, 1) := by decide +kernel
theorem dX6_whereWas_53 : decode cX6_whereWas 53 = .ok (.if_icmp .gt 22, 3) := by decide +kernel
theorem dX6_whereWas_56 : decode cX6_whereWas 56 = .ok (.iload_n 2, 1) := by decide +kernel
theorem dX6_whereWas_57 : decode cX6_whereWas 57 = .ok (.aload 5, 2) := by decide +kernel
theorem dX6_whereWas_59 : decode cX6_whereWas 59 = .ok (.getfield 159, 3) := by decide +kernel
theorem dX6_whereWas_62 : decode cX6_whereWas 62 = .ok (.if_icmp .ge 7, 3) := by decide +kernel
theorem dX6_whereWas_65 : decode cX6_whereWas 65 = .ok (.iconst (-1), 1) := by decide +kernel
theorem dX6_whereWas_66 : decode cX6_whereWas 66 = .ok (.goto 8, 3) := by decide +kernel
theorem dX6_whereWas_69 : decode cX6_whereWas 69 = .ok (.aload 5, 2) := by decide +kernel
theorem dX6_whereWas_71 : decode cX6_whereWas 71 = .ok (.getfield 156, 3) := by decide +kernel
theorem dX6_whereWas_74 : decode cX6_whereWas 74 = .ok (.istore_n 3, 1) := by decide +kernel
theorem dX6_whereWas_75 : decode cX6_whereWas 75 = .ok (.iinc 4 1, 3) := by decide +kernel
theorem dX6_whereWas_78 : decode cX6_whereWas 78 = .ok (.goto (-66), 3) := by decide +kernel
theorem dX6_whereWas_81 : decode cX6_whereWas 81 = .ok (.iload_n 3, 1) := by decide +kernel
theorem dX6_whereWas_82 : decode cX6_whereWas 82 = .ok (.ireturn, 1) := by decide +kernel
theorem dX6_isFree_0 : decode cX6_isFree 0 = .ok (.aload_n 0, 1) := by decide +kernel
theorem dX6_isFree_1 : decode cX6_isFree 1 = .ok (.iload_n 1, 1) := by decide +kernel
theorem dX6_isFree_2 : decode cX6_isFree 2 = .ok (.invokevirtual 148, 3) := by decide +kernel
theorem dX6_isFree_5 : decode cX6_isFree 5 = .ok (.istore_n 2, 1) := by decide +kernel
theorem dX6_isFree_6 : decode cX6_isFree 6 = .ok (.iload_n 2, 1) := by decide +kernel
theorem dX6_isFree_7 : decode cX6_isFree 7 = .ok (.iconst (-1), 1) := by decide +kernel
theorem dX6_isFree_8 : decode cX6_isFree 8 = .ok (.if_icmp .eq 30, 3) := by decide +kernel
theorem dX6_isFree_11 : decode cX6_isFree 11 = .ok (.aload_n 0, 1) := by decide +kernel
theorem dX6_isFree_12 : decode cX6_isFree 12 = .ok (.iload_n 2, 1) := by decide +kernel
theorem dX6_isFree_13 : decode cX6_isFree 13 = .ok (.invokevirtual 152, 3) := by decide +kernel
theorem dX6_isFree_16 : decode cX6_isFree 16 = .ok (.getfield 166, 3) := by decide +kernel
theorem dX6_isFree_19 : decode cX6_isFree 19 = .ok (.iconst 2, 1) := by decide +kernel
theorem dX6_isFree_20 : decode cX6_isFree 20 = .ok (.if_icmp .ne 22, 3) := by decide +kernel
theorem dX6_isFree_23 : decode cX6_isFree 23 = .ok (.aload_n 0, 1) := by decide +kernel
theorem dX6_isFree_24 : decode cX6_isFree 24 = .ok (.iload_n 2, 1) := by decide +kernel
theorem dX6_isFree_25 : decode cX6_isFree 25 = .ok (.invokevirtual 152, 3) := by decide +kernel
theorem dX6_isFree_28 : decode cX6_isFree 28 = .ok (.getfield 159, 3) := by decide +kernel
theorem dX6_isFree_31 : decode cX6_isFree 31 = .ok (.aload_n 0, 1) := by decide +kernel
theorem dX6_isFree_32 : decode cX6_isFree 32 = .ok (.getfield 77, 3) := by decide +kernel
theorem dX6_isFree_35 : decode cX6_isFree 35 = .ok (.if_icmp .gt 7, 3) := by decide +kernel
theorem dX6_isFree_38 : decode cX6_isFree 38 = .ok (.iconst 1, 1) := by decide +kernel
theorem dX6_isFree_39 : decode cX6_isFree 39 = .ok (.goto 4, 3) := by decide +kernel
theorem dX6_isFree_42 : decode cX6_isFree 42 = .ok (.iconst 0, 1) := by decide +kernel
theorem dX6_isFree_43 : decode cX6_isFree 43 = .ok (.ireturn, 1) := by decide +kernel
theorem dX6_addSailing_0 : decode cX6_addSailing 0 = .ok (.aload_n 0, 1) := by decide +kernel
theorem dX6_addSailing_1 : decode cX6_addSailing 1 = .ok (.getfield 71, 3) := by decide +kernel
theorem dX6_addSailing_4 : decode cX6_addSailing 4 = .ok (.istore 6, 2) := by decide +kernel
theorem dX6_addSailing_6 : decode cX6_addSailing 6 = .ok (.aload_n 0, 1) := by decide +kernel
theorem dX6_addSailing_7 : decode cX6_addSailing 7 = .ok (.dup, 1) := by decide +kernel
theorem dX6_addSailing_8 : decode cX6_addSailing 8 = .ok (.getfield 71, 3) := by decide +kernel
theorem dX6_addSailing_11 : decode cX6_addSailing 11 = .ok (.iconst 1, 1) := by decide +kernel
theorem dX6_addSailing_12 : decode cX6_addSailing 12 = .ok (.iadd, 1) := by decide +kernel
theorem dX6_addSailing_13 : decode cX6_addSailing 13 = .ok (.putfield 71, 3) := by decide +kernel
theorem dX6_addSailing_16 : decode cX6_addSailing 16 = .ok (.aload_n 0, 1) := by decide +kernel
theorem dX6_addSailing_17 : decode cX6_addSailing 17 = .ok (.iload 6, 2) := by decide +kernel
theorem dX6_addSailing_19 : decode cX6_addSailing 19 = .ok (.invokevirtual 152, 3) := by decide +kernel
theorem dX6_addSailing_22 : decode cX6_addSailing 22 = .ok (.astore 7, 2) := by decide +kernel
theorem dX6_addSailing_24 : decode cX6_addSailing 24 = .ok (.aload 7, 2) := by decide +kernel
theorem dX6_addSailing_26 : decode cX6_addSailing 26 = .ok (.iload_n 1, 1) := by decide +kernel
theorem dX6_addSailing_27 : decode cX6_addSailing 27 = .ok (.putfield 270, 3) := by decide +kernel
theorem dX6_addSailing_30 : decode cX6_addSailing 30 = .ok (.aload 7, 2) := by decide +kernel
theorem dX6_addSailing_32 : decode cX6_addSailing 32 = .ok (.iload_n 2, 1) := by decide +kernel
theorem dX6_addSailing_33 : decode cX6_addSailing 33 = .ok (.putfield 183, 3) := by decide +kernel
theorem dX6_addSailing_36 : decode cX6_addSailing 36 = .ok (.aload 7, 2) := by decide +kernel
theorem dX6_addSailing_38 : decode cX6_addSailing 38 = .ok (.iload_n 3, 1) := by decide +kernel
theorem dX6_addSailing_39 : decode cX6_addSailing 39 = .ok (.putfield 156, 3) := by decide +kernel
theorem dX6_addSailing_42 : decode cX6_addSailing 42 = .ok (.aload 7, 2) := by decide +kernel
theorem dX6_addSailing_44 : decode cX6_addSailing 44 = .ok (.iload 4, 2) := by decide +kernel
theorem dX6_addSailing_46 : decode cX6_addSailing 46 = .ok (.putfield 271, 3) := by decide +kernel
theorem dX6_addSailing_49 : decode cX6_addSailing 49 = .ok (.aload 7, 2) := by decide +kernel
theorem dX6_addSailing_51 : decode cX6_addSailing 51 = .ok (.iload 5, 2) := by decide +kernel
theorem dX6_addSailing_53 : decode cX6_addSailing 53 = .ok (.putfield 192, 3) := by decide +kernel
theorem dX6_addSailing_56 : decode cX6_addSailing 56 = .ok (.aload 7, 2) := by decide +kernel
theorem dX6_addSailing_58 : decode cX6_addSailing 58 = .ok (.iload 4, 2) := by decide +kernel
theorem dX6_addSailing_60 : decode cX6_addSailing 60 = .ok (.aload_n 0, 1) := by decide +kernel
theorem dX6_addSailing_61 : decode cX6_addSailing 61 = .ok (.iload_n 1, 1) := by decide +kernel
theorem dX6_addSailing_62 : decode cX6_addSailing 62 = .ok (.invokevirtual 99, 3) := by decide +kernel
theorem dX6_addSailing_65 : decode cX6_addSailing 65 = .ok (.iload 5, 2) := by decide +kernel
theorem dX6_addSailing_67 : decode cX6_addSailing 67 = .ok (.invokevirtual 274, 3) := by decide +kernel
theorem dX6_addSailing_70 : decode cX6_addSailing 70 = .ok (.iadd, 1) := by decide +kernel
theorem dX6_addSailing_71 : decode cX6_addSailing 71 = .ok (.putfield 159, 3) := by decide +kernel
theorem dX6_addSailing_74 : decode cX6_addSailing 74 = .ok (.iload 6, 2) := by decide +kernel
theorem dX6_addSailing_76 : decode cX6_addSailing 76 = .ok (.ireturn, 1) := by decide +kernel
theorem dX6_lookAt_0 : decode cX6_lookAt 0 = .ok (.aload_n 0, 1) := by decide +kernel
theorem dX6_lookAt_1 : decode cX6_lookAt 1 = .ok (.iload_n 1, 1) := by decide +kernel
theorem dX6_lookAt_2 : decode cX6_lookAt 2 = .ok (.invokevirtual 152, 3) := by decide +kernel
theorem dX6_lookAt_5 : decode cX6_lookAt 5 = .ok (.astore_n 2, 1) := by decide +kernel
theorem dX6_lookAt_6 : decode cX6_lookAt 6 = .ok (.aload_n 2, 1) := by decide +kernel
theorem dX6_lookAt_7 : decode cX6_lookAt 7 = .ok (.getfield 166, 3) := by decide +kernel
theorem dX6_lookAt_10 : decode cX6_lookAt 10 = .ok (.ifCond .ne 14, 3) := by decide +kernel
theorem dX6_lookAt_13 : decode cX6_lookAt 13 = .ok (.aload_n 2, 1) := by decide +kernel
theorem dX6_lookAt_14 : decode cX6_lookAt 14 = .ok (.getfield 271, 3) := by decide +kernel
theorem dX6_lookAt_17 : decode cX6_lookAt 17 = .ok (.aload_n 0, 1) := by decide +kernel
theorem dX6_lookAt_18 : decode cX6_lookAt 18 = .ok (.getfield 77, 3) := by decide +kernel
theorem dX6_lookAt_21 : decode cX6_lookAt 21 = .ok (.if_icmp .eq 4, 3) := by decide +kernel
theorem dX6_lookAt_24 : decode cX6_lookAt 24 = .ok (.return_, 1) := by decide +kernel
theorem dX6_lookAt_25 : decode cX6_lookAt 25 = .ok (.aload_n 0, 1) := by decide +kernel
theorem dX6_lookAt_26 : decode cX6_lookAt 26 = .ok (.iload_n 1, 1) := by decide +kernel
theorem dX6_lookAt_27 : decode cX6_lookAt 27 = .ok (.invokevirtual 277, 3) := by decide +kernel
theorem dX6_lookAt_30 : decode cX6_lookAt 30 = .ok (.istore_n 3, 1) := by decide +kernel
theorem dX6_lookAt_31 : decode cX6_lookAt 31 = .ok (.iload_n 3, 1) := by decide +kernel
theorem dX6_lookAt_32 : decode cX6_lookAt 32 = .ok (.ifCond .ne 11, 3) := by decide +kernel
theorem dX6_lookAt_35 : decode cX6_lookAt 35 = .ok (.aload_n 0, 1) := by decide +kernel
theorem dX6_lookAt_36 : decode cX6_lookAt 36 = .ok (.iload_n 1, 1) := by decide +kernel
theorem dX6_lookAt_37 : decode cX6_lookAt 37 = .ok (.invokevirtual 280, 3) := by decide +kernel
theorem dX6_lookAt_40 : decode cX6_lookAt 40 = .ok (.goto 10, 3) := by decide +kernel
theorem dX6_lookAt_43 : decode cX6_lookAt 43 = .ok (.aload_n 0, 1) := by decide +kernel
theorem dX6_lookAt_44 : decode cX6_lookAt 44 = .ok (.iload_n 1, 1) := by decide +kernel
theorem dX6_lookAt_45 : decode cX6_lookAt 45 = .ok (.iload_n 3, 1) := by decide +kernel
theorem dX6_lookAt_46 : decode cX6_lookAt 46 = .ok (.invokevirtual 169, 3) := by decide +kernel
theorem dX6_lookAt_49 : decode cX6_lookAt 49 = .ok (.pop, 1) := by decide +kernel
theorem dX6_lookAt_50 : decode cX6_lookAt 50 = .ok (.return_, 1) := by decide +kernel
theorem dX6_reasonAgainst_0 : decode cX6_reasonAgainst 0 = .ok (.aload_n 0, 1) := by decide +kernel
theorem dX6_reasonAgainst_1 : decode cX6_reasonAgainst 1 = .ok (.iload_n 1, 1) := by decide +kernel
theorem dX6_reasonAgainst_2 : decode cX6_reasonAgainst 2 = .ok (.invokevirtual 152, 3) := by decide +kernel
theorem dX6_reasonAgainst_5 : decode cX6_reasonAgainst 5 = .ok (.astore_n 2, 1) := by decide +kernel
theorem dX6_reasonAgainst_6 : decode cX6_reasonAgainst 6 = .ok (.aload_n 0, 1) := by decide +kernel
theorem dX6_reasonAgainst_7 : decode cX6_reasonAgainst 7 = .ok (.aload_n 2, 1) := by decide +kernel
theorem dX6_reasonAgainst_8 : decode cX6_reasonAgainst 8 = .ok (.getfield 270, 3) := by decide +kernel
theorem dX6_reasonAgainst_11 : decode cX6_reasonAgainst 11 = .ok (.invokevirtual 99, 3) := by decide +kernel
theorem dX6_reasonAgainst_14 : decode cX6_reasonAgainst 14 = .ok (.astore_n 3, 1) := by decide +kernel
theorem dX6_reasonAgainst_15 : decode cX6_reasonAgainst 15 = .ok (.aload_n 0, 1) := by decide +kernel
theorem dX6_reasonAgainst_16 : decode cX6_reasonAgainst 16 = .ok (.aload_n 2, 1) := by decide +kernel
theorem dX6_reasonAgainst_17 : decode cX6_reasonAgainst 17 = .ok (.getfield 270, 3) := by decide +kernel
theorem dX6_reasonAgainst_20 : decode cX6_reasonAgainst 20 = .ok (.aload_n 2, 1) := by decide +kernel
theorem dX6_reasonAgainst_21 : decode cX6_reasonAgainst 21 = .ok (.getfield 271, 3) := by decide +kernel
theorem dX6_reasonAgainst_24 : decode cX6_reasonAgainst 24 = .ok (.invokevirtual 180, 3) := by decide +kernel
theorem dX6_reasonAgainst_27 : decode cX6_reasonAgainst 27 = .ok (.aload_n 2, 1) := by decide +kernel
theorem dX6_reasonAgainst_28 : decode cX6_reasonAgainst 28 = .ok (.getfield 183, 3) := by decide +kernel
theorem dX6_reasonAgainst_31 : decode cX6_reasonAgainst 31 = .ok (.if_icmp .ne 17, 3) := by decide +kernel
theorem dX6_reasonAgainst_34 : decode cX6_reasonAgainst 34 = .ok (.aload_n 3, 1) := by decide +kernel
theorem dX6_reasonAgainst_35 : decode cX6_reasonAgainst 35 = .ok (.getfield 186, 3) := by decide +kernel
theorem dX6_reasonAgainst_38 : decode cX6_reasonAgainst 38 = .ok (.aload_n 2, 1) := by decide +kernel
theorem dX6_reasonAgainst_39 : decode cX6_reasonAgainst 39 = .ok (.getfield 271, 3) := by decide +kernel
theorem dX6_reasonAgainst_42 : decode cX6_reasonAgainst 42 = .ok (.invokevirtual 189, 3) := by decide +kernel
theorem dX6_reasonAgainst_45 : decode cX6_reasonAgainst 45 = .ok (.ifCond .eq 5, 3) := by decide +kernel
theorem dX6_reasonAgainst_48 : decode cX6_reasonAgainst 48 = .ok (.iconst 1, 1) := by decide +kernel
theorem dX6_reasonAgainst_49 : decode cX6_reasonAgainst 49 = .ok (.ireturn, 1) := by decide +kernel
theorem dX6_reasonAgainst_50 : decode cX6_reasonAgainst 50 = .ok (.aload_n 2, 1) := by decide +kernel
theorem dX6_reasonAgainst_51 : decode cX6_reasonAgainst 51 = .ok (.getfield 183, 3) := by decide +kernel
theorem dX6_reasonAgainst_54 : decode cX6_reasonAgainst 54 = .ok (.aload_n 2, 1) := by decide +kernel
theorem dX6_reasonAgainst_55 : decode cX6_reasonAgainst 55 = .ok (.getfield 271, 3) := by decide +kernel
theorem dX6_reasonAgainst_58 : decode cX6_reasonAgainst 58 = .ok (.invokestatic 141, 3) := by decide +kernel
theorem dX6_reasonAgainst_61 : decode cX6_reasonAgainst 61 = .ok (.aload_n 3, 1) := by decide +kernel
theorem dX6_reasonAgainst_62 : decode cX6_reasonAgainst 62 = .ok (.getfield 115, 3) := by decide +kernel
theorem dX6_reasonAgainst_65 : decode cX6_reasonAgainst 65 = .ok (.if_icmp .lt 21, 3) := by decide +kernel
theorem dX6_reasonAgainst_68 : decode cX6_reasonAgainst 68 = .ok (.aload_n 2, 1) := by decide +kernel
theorem dX6_reasonAgainst_69 : decode cX6_reasonAgainst 69 = .ok (.getfield 156, 3) := by decide +kernel
theorem dX6_reasonAgainst_72 : decode cX6_reasonAgainst 72 = .ok (.aload_n 2, 1) := by decide +kernel
theorem dX6_reasonAgainst_73 : decode cX6_reasonAgainst 73 = .ok (.getfield 159, 3) := by decide +kernel
theorem dX6_reasonAgainst_76 : decode cX6_reasonAgainst 76 = .ok (.invokestatic 141, 3) := by decide +kernel
theorem dX6_reasonAgainst_79 : decode cX6_reasonAgainst 79 = .ok (.aload_n 3, 1) := by decide +kernel
theorem dX6_reasonAgainst_80 : decode cX6_reasonAgainst 80 = .ok (.getfield 115, 3) := by decide +kernel
theorem dX6_reasonAgainst_83 : decode cX6_reasonAgainst 83 = .ok (.if_icmp .ge 5, 3) := by decide +kernel
theorem dX6_reasonAgainst_86 : decode cX6_reasonAgainst 86 = .ok (.iconst 2, 1) := by decide +kernel
theorem dX6_reasonAgainst_87 : decode cX6_reasonAgainst 87 = .ok (.ireturn, 1) := by decide +kernel
theorem dX6_reasonAgainst_88 : decode cX6_reasonAgainst 88 = .ok (.aload_n 0, 1) := by decide +kernel
theorem dX6_reasonAgainst_89 : decode cX6_reasonAgainst 89 = .ok (.getfield 50, 3) := by decide +kernel
theorem dX6_reasonAgainst_92 : decode cX6_reasonAgainst 92 = .ok (.aload_n 2, 1) := by decide +kernel
theorem dX6_reasonAgainst_93 : decode cX6_reasonAgainst 93 = .ok (.getfield 271, 3) := by decide +kernel
theorem dX6_reasonAgainst_96 : decode cX6_reasonAgainst 96 = .ok (.invokevirtual 189, 3) := by decide +kernel
theorem dX6_reasonAgainst_99 : decode cX6_reasonAgainst 99 = .ok (.ifCond .eq 5, 3) := by decide +kernel
theorem dX6_reasonAgainst_102 : decode cX6_reasonAgainst 102 = .ok (.iconst 3, 1) := by decide +kernel
theorem dX6_reasonAgainst_103 : decode cX6_reasonAgainst 103 = .ok (.ireturn, 1) := by decide +kernel
theorem dX6_reasonAgainst_104 : decode cX6_reasonAgainst 104 = .ok (.aload_n 0, 1) := by decide +kernel
theorem dX6_reasonAgainst_105 : decode cX6_reasonAgainst 105 = .ok (.getfield 54, 3) := by decide +kernel
theorem dX6_reasonAgainst_108 : decode cX6_reasonAgainst 108 = .ok (.aload_n 2, 1) := by decide +kernel
theorem dX6_reasonAgainst_109 : decode cX6_reasonAgainst 109 = .ok (.getfield 271, 3) := by decide +kernel
theorem dX6_reasonAgainst_112 : decode cX6_reasonAgainst 112 = .ok (.invokevirtual 189, 3) := by decide +kernel
theorem dX6_reasonAgainst_115 : decode cX6_reasonAgainst 115 = .ok (.ifCond .eq 12, 3) := by decide +kernel
theorem dX6_reasonAgainst_118 : decode cX6_reasonAgainst 118 = .ok (.iload_n 1, 1) := by decide +kernel
theorem dX6_reasonAgainst_119 : decode cX6_reasonAgainst 119 = .ok (.iconst 2, 1) := by decide +kernel
theorem dX6_reasonAgainst_120 : decode cX6_reasonAgainst 120 = .ok (.irem, 1) := by decide +kernel
theorem dX6_reasonAgainst_121 : decode cX6_reasonAgainst 121 = .ok (.iconst 1, 1) := by decide +kernel
theorem dX6_reasonAgainst_122 : decode cX6_reasonAgainst 122 = .ok (.if_icmp .ne 5, 3) := by decide +kernel
theorem dX6_reasonAgainst_125 : decode cX6_reasonAgainst 125 = .ok (.iconst 4, 1) := by decide +kernel
theorem dX6_reasonAgainst_126 : decode cX6_reasonAgainst 126 = .ok (.ireturn, 1) := by decide +kernel
theorem dX6_reasonAgainst_127 : decode cX6_reasonAgainst 127 = .ok (.aload_n 0, 1) := by decide +kernel
theorem dX6_reasonAgainst_128 : decode cX6_reasonAgainst 128 = .ok (.aload_n 2, 1) := by decide +kernel
theorem dX6_reasonAgainst_129 : decode cX6_reasonAgainst 129 = .ok (.invokevirtual 283, 3) := by decide +kernel
theorem dX6_reasonAgainst_132 : decode cX6_reasonAgainst 132 = .ok (.iconst (-1), 1) := by decide +kernel
theorem dX6_reasonAgainst_133 : decode cX6_reasonAgainst 133 = .ok (.if_icmp .ne 5, 3) := by decide +kernel
theorem dX6_reasonAgainst_136 : decode cX6_reasonAgainst 136 = .ok (.iconst 5, 1) := by decide +kernel
theorem dX6_reasonAgainst_137 : decode cX6_reasonAgainst 137 = .ok (.ireturn, 1) := by decide +kernel
theorem dX6_reasonAgainst_138 : decode cX6_reasonAgainst 138 = .ok (.aload_n 3, 1) := by decide +kernel
theorem dX6_reasonAgainst_139 : decode cX6_reasonAgainst 139 = .ok (.getfield 121, 3) := by decide +kernel
theorem dX6_reasonAgainst_142 : decode cX6_reasonAgainst 142 = .ok (.aload_n 3, 1) := by decide +kernel
theorem dX6_reasonAgainst_143 : decode cX6_reasonAgainst 143 = .ok (.aload_n 2, 1) := by decide +kernel
theorem dX6_reasonAgainst_144 : decode cX6_reasonAgainst 144 = .ok (.getfield 159, 3) := by decide +kernel
theorem dX6_reasonAgainst_147 : decode cX6_reasonAgainst 147 = .ok (.aload_n 2, 1) := by decide +kernel
theorem dX6_reasonAgainst_148 : decode cX6_reasonAgainst 148 = .ok (.getfield 271, 3) := by decide +kernel
theorem dX6_reasonAgainst_151 : decode cX6_reasonAgainst 151 = .ok (.isub, 1) := by decide +kernel
theorem dX6_reasonAgainst_152 : decode cX6_reasonAgainst 152 = .ok (.invokevirtual 287, 3) := by decide +kernel
theorem dX6_reasonAgainst_155 : decode cX6_reasonAgainst 155 = .ok (.if_icmp .ge 8, 3) := by decide +kernel
theorem dX6_reasonAgainst_158 : decode cX6_reasonAgainst 158 = .ok (.bipush 6, 2) := by decide +kernel
theorem dX6_reasonAgainst_160 : decode cX6_reasonAgainst 160 = .ok (.goto 4, 3) := by decide +kernel
theorem dX6_reasonAgainst_163 : decode cX6_reasonAgainst 163 = .ok (.iconst 0, 1) := by decide +kernel
theorem dX6_reasonAgainst_164 : decode cX6_reasonAgainst 164 = .ok (.ireturn, 1) := by decide +kernel
theorem dX6_crewFor_0 : decode cX6_crewFor 0 = .ok (.aload_n 1, 1) := by decide +kernel
theorem dX6_crewFor_1 : decode cX6_crewFor 1 = .ok (.getfield 271, 3) := by decide +kernel
theorem dX6_crewFor_4 : decode cX6_crewFor 4 = .ok (.bipush 24, 2) := by decide +kernel
theorem dX6_crewFor_6 : decode cX6_crewFor 6 = .ok (.idiv, 1) := by decide +kernel
theorem dX6_crewFor_7 : decode cX6_crewFor 7 = .ok (.istore_n 2, 1) := by decide +kernel
theorem dX6_crewFor_8 : decode cX6_crewFor 8 = .ok (.bipush 12, 2) := by decide +kernel
theorem dX6_crewFor_10 : decode cX6_crewFor 10 = .ok (.aload_n 1, 1) := by decide +kernel
theorem dX6_crewFor_11 : decode cX6_crewFor 11 = .ok (.getfield 159, 3) := by decide +kernel
theorem dX6_crewFor_14 : decode cX6_crewFor 14 = .ok (.aload_n 1, 1) := by decide +kernel
theorem dX6_crewFor_15 : decode cX6_crewFor 15 = .ok (.getfield 271, 3) := by decide +kernel
theorem dX6_crewFor_18 : decode cX6_crewFor 18 = .ok (.isub, 1) := by decide +kernel
theorem dX6_crewFor_19 : decode cX6_crewFor 19 = .ok (.isub, 1) := by decide +kernel
theorem dX6_crewFor_20 : decode cX6_crewFor 20 = .ok (.istore_n 3, 1) := by decide +kernel
theorem dX6_crewFor_21 : decode cX6_crewFor 21 = .ok (.iconst 0, 1) := by decide +kernel
theorem dX6_crewFor_22 : decode cX6_crewFor 22 = .ok (.istore 4, 2) := by decide +kernel
theorem dX6_crewFor_24 : decode cX6_crewFor 24 = .ok (.iload 4, 2) := by decide +kernel
theorem dX6_crewFor_26 : decode cX6_crewFor 26 = .ok (.aload_n 0, 1) := by decide +kernel
theorem dX6_crewFor_27 : decode cX6_crewFor 27 = .ok (.getfield 68, 3) := by decide +kernel
theorem dX6_crewFor_30 : decode cX6_crewFor 30 = .ok (.if_icmp .ge 55, 3) := by decide +kernel
theorem dX6_crewFor_33 : decode cX6_crewFor 33 = .ok (.aload_n 0, 1) := by decide +kernel
theorem dX6_crewFor_34 : decode cX6_crewFor 34 = .ok (.iload 4, 2) := by decide +kernel
theorem dX6_crewFor_36 : decode cX6_crewFor 36 = .ok (.invokevirtual 124, 3) := by decide +kernel
theorem dX6_crewFor_39 : decode cX6_crewFor 39 = .ok (.astore 5, 2) := by decide +kernel
theorem dX6_crewFor_41 : decode cX6_crewFor 41 = .ok (.aload 5, 2) := by decide +kernel
theorem dX6_crewFor_43 : decode cX6_crewFor 43 = .ok (.getfield 128, 3) := by decide +kernel
theorem dX6_crewFor_46 : decode cX6_crewFor 46 = .ok (.aload_n 1, 1) := by decide +kernel
theorem dX6_crewFor_47 : decode cX6_crewFor 47 = .ok (.getfield 270, 3) := by decide +kernel
theorem dX6_crewFor_50 : decode cX6_crewFor 50 = .ok (.if_icmp .ne 29, 3) := by decide +kernel
theorem dX6_crewFor_53 : decode cX6_crewFor 53 = .ok (.aload 5, 2) := by decide +kernel
theorem dX6_crewFor_55 : decode cX6_crewFor 55 = .ok (.getfield 131, 3) := by decide +kernel
theorem dX6_crewFor_58 : decode cX6_crewFor 58 = .ok (.iload_n 2, 1) := by decide +kernel
theorem dX6_crewFor_59 : decode cX6_crewFor 59 = .ok (.invokevirtual 189, 3) := by decide +kernel
theorem dX6_crewFor_62 : decode cX6_crewFor 62 = .ok (.ifCond .eq 17, 3) := by decide +kernel
theorem dX6_crewFor_65 : decode cX6_crewFor 65 = .ok (.aload_n 0, 1) := by decide +kernel
theorem dX6_crewFor_66 : decode cX6_crewFor 66 = .ok (.iload 4, 2) := by decide +kernel
theorem dX6_crewFor_68 : decode cX6_crewFor 68 = .ok (.iload_n 2, 1) := by decide +kernel
theorem dX6_crewFor_69 : decode cX6_crewFor 69 = .ok (.invokevirtual 137, 3) := by decide +kernel
theorem dX6_crewFor_72 : decode cX6_crewFor 72 = .ok (.iload_n 3, 1) := by decide +kernel
theorem dX6_crewFor_73 : decode cX6_crewFor 73 = .ok (.if_icmp .gt 6, 3) := by decide +kernel
theorem dX6_crewFor_76 : decode cX6_crewFor 76 = .ok (.iload 4, 2) := by decide +kernel
theorem dX6_crewFor_78 : decode cX6_crewFor 78 = .ok (.ireturn, 1) := by decide +kernel
theorem dX6_crewFor_79 : decode cX6_crewFor 79 = .ok (.iinc 4 1, 3) := by decide +kernel
theorem dX6_crewFor_82 : decode cX6_crewFor 82 = .ok (.goto (-58), 3) := by decide +kernel
theorem dX6_crewFor_85 : decode cX6_crewFor 85 = .ok (.iconst (-1), 1) := by decide +kernel
theorem dX6_crewFor_86 : decode cX6_crewFor 86 = .ok (.ireturn, 1) := by decide +kernel
theorem dX6_hoursSailed_0 : decode cX6_hoursSailed 0 = .ok (.iconst 0, 1) := by decide +kernel
theorem dX6_hoursSailed_1 : decode cX6_hoursSailed 1 = .ok (.istore_n 3, 1) := by decide +kernel
theorem dX6_hoursSailed_2 : decode cX6_hoursSailed 2 = .ok (.iconst 0, 1) := by decide +kernel
theorem dX6_hoursSailed_3 : decode cX6_hoursSailed 3 = .ok (.istore 4, 2) := by decide +kernel
theorem dX6_hoursSailed_5 : decode cX6_hoursSailed 5 = .ok (.iload 4, 2) := by decide +kernel
theorem dX6_hoursSailed_7 : decode cX6_hoursSailed 7 = .ok (.aload_n 0, 1) := by decide +kernel
theorem dX6_hoursSailed_8 : decode cX6_hoursSailed 8 = .ok (.getfield 71, 3) := by decide +kernel
theorem dX6_hoursSailed_11 : decode cX6_hoursSailed 11 = .ok (.if_icmp .ge 52, 3) := by decide +kernel
theorem dX6_hoursSailed_14 : decode cX6_hoursSailed 14 = .ok (.aload_n 0, 1) := by decide +kernel
theorem dX6_hoursSailed_15 : decode cX6_hoursSailed 15 = .ok (.iload 4, 2) := by decide +kernel
theorem dX6_hoursSailed_17 : decode cX6_hoursSailed 17 = .ok (.invokevirtual 152, 3) := by decide +kernel
theorem dX6_hoursSailed_20 : decode cX6_hoursSailed 20 = .ok (.astore 5, 2) := by decide +kernel
theorem dX6_hoursSailed_22 : decode cX6_hoursSailed 22 = .ok (.aload 5, 2) := by decide +kernel
theorem dX6_hoursSailed_24 : decode cX6_hoursSailed 24 = .ok (.getfield 290, 3) := by decide +kernel
theorem dX6_hoursSailed_27 : decode cX6_hoursSailed 27 = .ok (.iload_n 1, 1) := by decide +kernel
theorem dX6_hoursSailed_28 : decode cX6_hoursSailed 28 = .ok (.if_icmp .ne 29, 3) := by decide +kernel
theorem dX6_hoursSailed_31 : decode cX6_hoursSailed 31 = .ok (.aload 5, 2) := by decide +kernel
theorem dX6_hoursSailed_33 : decode cX6_hoursSailed 33 = .ok (.getfield 271, 3) := by decide +kernel
theorem dX6_hoursSailed_36 : decode cX6_hoursSailed 36 = .ok (.bipush 24, 2) := by decide +kernel
theorem dX6_hoursSailed_38 : decode cX6_hoursSailed 38 = .ok (.idiv, 1) := by decide +kernel
theorem dX6_hoursSailed_39 : decode cX6_hoursSailed 39 = .ok (.iload_n 2, 1) := by decide +kernel
theorem dX6_hoursSailed_40 : decode cX6_hoursSailed 40 = .ok (.if_icmp .ne 17, 3) := by decide +kernel
theorem dX6_hoursSailed_43 : decode cX6_hoursSailed 43 = .ok (.iload_n 3, 1) := by decide +kernel
theorem dX6_hoursSailed_44 : decode cX6_hoursSailed 44 = .ok (.aload 5, 2) := by decide +kernel
theorem dX6_hoursSailed_46 : decode cX6_hoursSailed 46 = .ok (.getfield 159, 3) := by decide +kernel
theorem dX6_hoursSailed_49 : decode cX6_hoursSailed 49 = .ok (.aload 5, 2) := by decide +kernel
theorem dX6_hoursSailed_51 : decode cX6_hoursSailed 51 = .ok (.getfield 271, 3) := by decide +kernel
theorem dX6_hoursSailed_54 : decode cX6_hoursSailed 54 = .ok (.isub, 1) := by decide +kernel
theorem dX6_hoursSailed_55 : decode cX6_hoursSailed 55 = .ok (.iadd, 1) := by decide +kernel
theorem dX6_hoursSailed_56 : decode cX6_hoursSailed 56 = .ok (.istore_n 3, 1) := by decide +kernel
theorem dX6_hoursSailed_57 : decode cX6_hoursSailed 57 = .ok (.iinc 4 1, 3) := by decide +kernel
theorem dX6_hoursSailed_60 : decode cX6_hoursSailed 60 = .ok (.goto (-55), 3) := by decide +kernel
theorem dX6_hoursSailed_63 : decode cX6_hoursSailed 63 = .ok (.iload_n 3, 1) := by decide +kernel
theorem dX6_hoursSailed_64 : decode cX6_hoursSailed 64 = .ok (.ireturn, 1) := by decide +kernel
theorem dX6_callOff_0 : decode cX6_callOff 0 = .ok (.aload_n 0, 1) := by decide +kernel
theorem dX6_callOff_1 : decode cX6_callOff 1 = .ok (.iload_n 1, 1) := by decide +kernel
theorem dX6_callOff_2 : decode cX6_callOff 2 = .ok (.invokevirtual 152, 3) := by decide +kernel
theorem dX6_callOff_5 : decode cX6_callOff 5 = .ok (.astore_n 3, 1) := by decide +kernel
theorem dX6_callOff_6 : decode cX6_callOff 6 = .ok (.aload_n 3, 1) := by decide +kernel
theorem dX6_callOff_7 : decode cX6_callOff 7 = .ok (.iconst 1, 1) := by decide +kernel
theorem dX6_callOff_8 : decode cX6_callOff 8 = .ok (.putfield 166, 3) := by decide +kernel
theorem dX6_callOff_11 : decode cX6_callOff 11 = .ok (.aload_n 3, 1) := by decide +kernel
theorem dX6_callOff_12 : decode cX6_callOff 12 = .ok (.iload_n 2, 1) := by decide +kernel
theorem dX6_callOff_13 : decode cX6_callOff 13 = .ok (.putfield 199, 3) := by decide +kernel
theorem dX6_callOff_16 : decode cX6_callOff 16 = .ok (.aload_n 0, 1) := by decide +kernel
theorem dX6_callOff_17 : decode cX6_callOff 17 = .ok (.iload_n 1, 1) := by decide +kernel
theorem dX6_callOff_18 : decode cX6_callOff 18 = .ok (.invokevirtual 293, 3) := by decide +kernel
theorem dX6_callOff_21 : decode cX6_callOff 21 = .ok (.ireturn, 1) := by decide +kernel
theorem dX6_setSail_0 : decode cX6_setSail 0 = .ok (.aload_n 0, 1) := by decide +kernel
theorem dX6_setSail_1 : decode cX6_setSail 1 = .ok (.iload_n 1, 1) := by decide +kernel
theorem dX6_setSail_2 : decode cX6_setSail 2 = .ok (.invokevirtual 152, 3) := by decide +kernel
theorem dX6_setSail_5 : decode cX6_setSail 5 = .ok (.astore_n 2, 1) := by decide +kernel
theorem dX6_setSail_6 : decode cX6_setSail 6 = .ok (.aload_n 0, 1) := by decide +kernel
theorem dX6_setSail_7 : decode cX6_setSail 7 = .ok (.aload_n 2, 1) := by decide +kernel
theorem dX6_setSail_8 : decode cX6_setSail 8 = .ok (.getfield 270, 3) := by decide +kernel
theorem dX6_setSail_11 : decode cX6_setSail 11 = .ok (.invokevirtual 99, 3) := by decide +kernel
theorem dX6_setSail_14 : decode cX6_setSail 14 = .ok (.astore_n 3, 1) := by decide +kernel
theorem dX6_setSail_15 : decode cX6_setSail 15 = .ok (.aload_n 2, 1) := by decide +kernel
theorem dX6_setSail_16 : decode cX6_setSail 16 = .ok (.aload_n 0, 1) := by decide +kernel
theorem dX6_setSail_17 : decode cX6_setSail 17 = .ok (.aload_n 2, 1) := by decide +kernel
theorem dX6_setSail_18 : decode cX6_setSail 18 = .ok (.invokevirtual 283, 3) := by decide +kernel
theorem dX6_setSail_21 : decode cX6_setSail 21 = .ok (.putfield 290, 3) := by decide +kernel
theorem dX6_setSail_24 : decode cX6_setSail 24 = .ok (.aload_n 2, 1) := by decide +kernel
theorem dX6_setSail_25 : decode cX6_setSail 25 = .ok (.iconst 2, 1) := by decide +kernel
theorem dX6_setSail_26 : decode cX6_setSail 26 = .ok (.putfield 166, 3) := by decide +kernel
theorem dX6_setSail_29 : decode cX6_setSail 29 = .ok (.aload_n 3, 1) := by decide +kernel
theorem dX6_setSail_30 : decode cX6_setSail 30 = .ok (.dup, 1) := by decide +kernel
theorem dX6_setSail_31 : decode cX6_setSail 31 = .ok (.getfield 121, 3) := by decide +kernel
theorem dX6_setSail_34 : decode cX6_setSail 34 = .ok (.aload_n 3, 1) := by decide +kernel
theorem dX6_setSail_35 : decode cX6_setSail 35 = .ok (.aload_n 2, 1) := by decide +kernel
theorem dX6_setSail_36 : decode cX6_setSail 36 = .ok (.getfield 159, 3) := by decide +kernel
theorem dX6_setSail_39 : decode cX6_setSail 39 = .ok (.aload_n 2, 1) := by decide +kernel
theorem dX6_setSail_40 : decode cX6_setSail 40 = .ok (.getfield 271, 3) := by decide +kernel
theorem dX6_setSail_43 : decode cX6_setSail 43 = .ok (.isub, 1) := by decide +kernel
theorem dX6_setSail_44 : decode cX6_setSail 44 = .ok (.invokevirtual 287, 3) := by decide +kernel
theorem dX6_setSail_47 : decode cX6_setSail 47 = .ok (.isub, 1) := by decide +kernel
theorem dX6_setSail_48 : decode cX6_setSail 48 = .ok (.putfield 121, 3) := by decide +kernel
theorem dX6_setSail_51 : decode cX6_setSail 51 = .ok (.aload_n 0, 1) := by decide +kernel
theorem dX6_setSail_52 : decode cX6_setSail 52 = .ok (.getfield 60, 3) := by decide +kernel
theorem dX6_setSail_55 : decode cX6_setSail 55 = .ok (.aload_n 3, 1) := by decide +kernel
theorem dX6_setSail_56 : decode cX6_setSail 56 = .ok (.invokevirtual 296, 3) := by decide +kernel
theorem dX6_setSail_59 : decode cX6_setSail 59 = .ok (.aload_n 0, 1) := by decide +kernel
theorem dX6_setSail_60 : decode cX6_setSail 60 = .ok (.iload_n 1, 1) := by decide +kernel
theorem dX6_setSail_61 : decode cX6_setSail 61 = .ok (.iconst 1, 1) := by decide +kernel
theorem dX6_setSail_62 : decode cX6_setSail 62 = .ok (.invokevirtual 300, 3) := by decide +kernel
theorem dX6_setSail_65 : decode cX6_setSail 65 = .ok (.aload_n 0, 1) := by decide +kernel
theorem dX6_setSail_66 : decode cX6_setSail 66 = .ok (.iload_n 1, 1) := by decide +kernel
theorem dX6_setSail_67 : decode cX6_setSail 67 = .ok (.iconst 0, 1) := by decide +kernel
theorem dX6_setSail_68 : decode cX6_setSail 68 = .ok (.invokevirtual 300, 3) := by decide +kernel
theorem dX6_setSail_71 : decode cX6_setSail 71 = .ok (.aload_n 0, 1) := by decide +kernel
theorem dX6_setSail_72 : decode cX6_setSail 72 = .ok (.iload_n 1, 1) := by decide +kernel
theorem dX6_setSail_73 : decode cX6_setSail 73 = .ok (.invokevirtual 304, 3) := by decide +kernel
theorem dX6_setSail_76 : decode cX6_setSail 76 = .ok (.aload_n 2, 1) := by decide +kernel
theorem dX6_setSail_77 : decode cX6_setSail 77 = .ok (.aload_n 0, 1) := by decide +kernel
theorem dX6_setSail_78 : decode cX6_setSail 78 = .ok (.getfield 60, 3) := by decide +kernel
theorem dX6_setSail_81 : decode cX6_setSail 81 = .ok (.getfield 307, 3) := by decide +kernel
theorem dX6_setSail_84 : decode cX6_setSail 84 = .ok (.putfield 252, 3) := by decide +kernel
theorem dX6_setSail_87 : decode cX6_setSail 87 = .ok (.aload_n 0, 1) := by decide +kernel
theorem dX6_setSail_88 : decode cX6_setSail 88 = .ok (.iload_n 1, 1) := by decide +kernel
theorem dX6_setSail_89 : decode cX6_setSail 89 = .ok (.invokevirtual 293, 3) := by decide +kernel
theorem dX6_setSail_92 : decode cX6_setSail 92 = .ok (.pop, 1) := by decide +kernel
theorem dX6_setSail_93 : decode cX6_setSail 93 = .ok (.return_, 1) := by decide +kernel
theorem dX6_takeThose_0 : decode cX6_takeThose 0 = .ok (.iconst 0, 1) := by decide +kernel
theorem dX6_takeThose_1 : decode cX6_takeThose 1 = .ok (.istore_n 3, 1) := by decide +kernel
theorem dX6_takeThose_2 : decode cX6_takeThose 2 = .ok (.iload_n 3, 1) := by decide +kernel
theorem dX6_takeThose_3 : decode cX6_takeThose 3 = .ok (.aload_n 0, 1) := by decide +kernel
theorem dX6_takeThose_4 : decode cX6_takeThose 4 = .ok (.getfield 74, 3) := by decide +kernel
theorem dX6_takeThose_7 : decode cX6_takeThose 7 = .ok (.if_icmp .ge 43, 3) := by decide +kernel
theorem dX6_takeThose_10 : decode cX6_takeThose 10 = .ok (.aload_n 0, 1) := by decide +kernel
theorem dX6_takeThose_11 : decode cX6_takeThose 11 = .ok (.iload_n 3, 1) := by decide +kernel
theorem dX6_takeThose_12 : decode cX6_takeThose 12 = .ok (.invokevirtual 211, 3) := by decide +kernel
theorem dX6_takeThose_15 : decode cX6_takeThose 15 = .ok (.astore 4, 2) := by decide +kernel
theorem dX6_takeThose_17 : decode cX6_takeThose 17 = .ok (.aload 4, 2) := by decide +kernel
theorem dX6_takeThose_19 : decode cX6_takeThose 19 = .ok (.getfield 215, 3) := by decide +kernel
theorem dX6_takeThose_22 : decode cX6_takeThose 22 = .ok (.iload_n 1, 1) := by decide +kernel
theorem dX6_takeThose_23 : decode cX6_takeThose 23 = .ok (.if_icmp .ne 21, 3) := by decide +kernel
theorem dX6_takeThose_26 : decode cX6_takeThose 26 = .ok (.aload 4, 2) := by decide +kernel
theorem dX6_takeThose_28 : decode cX6_takeThose 28 = .ok (.getfield 230, 3) := by decide +kernel
theorem dX6_takeThose_31 : decode cX6_takeThose 31 = .ok (.iload_n 2, 1) := by decide +kernel
theorem dX6_takeThose_32 : decode cX6_takeThose 32 = .ok (.if_icmp .ne 12, 3) := by decide +kernel
theorem dX6_takeThose_35 : decode cX6_takeThose 35 = .ok (.aload_n 0, 1) := by decide +kernel
theorem dX6_takeThose_36 : decode cX6_takeThose 36 = .ok (.getfield 60, 3) := by decide +kernel
theorem dX6_takeThose_39 : decode cX6_takeThose 39 = .ok (.aload 4, 2) := by decide +kernel
theorem dX6_takeThose_41 : decode cX6_takeThose 41 = .ok (.invokevirtual 308, 3) := by decide +kernel
theorem dX6_takeThose_44 : decode cX6_takeThose 44 = .ok (.iinc 3 1, 3) := by decide +kernel
theorem dX6_takeThose_47 : decode cX6_takeThose 47 = .ok (.goto (-45), 3) := by decide +kernel
theorem dX6_takeThose_50 : decode cX6_takeThose 50 = .ok (.return_, 1) := by decide +kernel
theorem dX6_evenOut_0 : decode cX6_evenOut 0 = .ok (.iconst 0, 1) := by decide +kernel
theorem dX6_evenOut_1 : decode cX6_evenOut 1 = .ok (.istore_n 2, 1) := by decide +kernel
theorem dX6_evenOut_2 : decode cX6_evenOut 2 = .ok (.iload_n 2, 1) := by decide +kernel
theorem dX6_evenOut_3 : decode cX6_evenOut 3 = .ok (.aload_n 0, 1) := by decide +kernel
theorem dX6_evenOut_4 : decode cX6_evenOut 4 = .ok (.getfield 74, 3) := by decide +kernel
theorem dX6_evenOut_7 : decode cX6_evenOut 7 = .ok (.if_icmp .ge 29, 3) := by decide +kernel
theorem dX6_evenOut_10 : decode cX6_evenOut 10 = .ok (.aload_n 0, 1) := by decide +kernel
theorem dX6_evenOut_11 : decode cX6_evenOut 11 = .ok (.getfield 60, 3) := by decide +kernel
theorem dX6_evenOut_14 : decode cX6_evenOut 14 = .ok (.getfield 307, 3) := by decide +kernel
theorem dX6_evenOut_17 : decode cX6_evenOut 17 = .ok (.invokestatic 267, 3) := by decide +kernel
theorem dX6_evenOut_20 : decode cX6_evenOut 20 = .ok (.bipush 20, 2) := by decide +kernel
theorem dX6_evenOut_22 : decode cX6_evenOut 22 = .ok (.if_icmp .le 14, 3) := by decide +kernel
theorem dX6_evenOut_25 : decode cX6_evenOut 25 = .ok (.aload_n 0, 1) := by decide +kernel
theorem dX6_evenOut_26 : decode cX6_evenOut 26 = .ok (.iload_n 1, 1) := by decide +kernel
theorem dX6_evenOut_27 : decode cX6_evenOut 27 = .ok (.invokevirtual 312, 3) := by decide +kernel
theorem dX6_evenOut_30 : decode cX6_evenOut 30 = .ok (.iinc 2 1, 3) := by decide +kernel
theorem dX6_evenOut_33 : decode cX6_evenOut 33 = .ok (.goto (-31), 3) := by decide +kernel
theorem dX6_evenOut_36 : decode cX6_evenOut 36 = .ok (.return_, 1) := by decide +kernel
theorem dX6_putOffLast_0 : decode cX6_putOffLast 0 = .ok (.iconst (-1), 1) := by decide +kernel
theorem dX6_putOffLast_1 : decode cX6_putOffLast 1 = .ok (.istore_n 2, 1) := by decide +kernel
theorem dX6_putOffLast_2 : decode cX6_putOffLast 2 = .ok (.iconst (-1), 1) := by decide +kernel
theorem dX6_putOffLast_3 : decode cX6_putOffLast 3 = .ok (.istore_n 3, 1) := by decide +kernel
theorem dX6_putOffLast_4 : decode cX6_putOffLast 4 = .ok (.iconst 0, 1) := by decide +kernel
theorem dX6_putOffLast_5 : decode cX6_putOffLast 5 = .ok (.istore 4, 2) := by decide +kernel
theorem dX6_putOffLast_7 : decode cX6_putOffLast 7 = .ok (.iload 4, 2) := by decide +kernel
theorem dX6_putOffLast_9 : decode cX6_putOffLast 9 = .ok (.aload_n 0, 1) := by decide +kernel
theorem dX6_putOffLast_10 : decode cX6_putOffLast 10 = .ok (.getfield 74, 3) := by decide +kernel
theorem dX6_putOffLast_13 : decode cX6_putOffLast 13 = .ok (.if_icmp .ge 56, 3) := by decide +kernel
theorem dX6_putOffLast_16 : decode cX6_putOffLast 16 = .ok (.aload_n 0, 1) := by decide +kernel
theorem dX6_putOffLast_17 : decode cX6_putOffLast 17 = .ok (.iload 4, 2) := by decide +kernel
theorem dX6_putOffLast_19 : decode cX6_putOffLast 19 = .ok (.invokevirtual 211, 3) := by decide +kernel
theorem dX6_putOffLast_22 : decode cX6_putOffLast 22 = .ok (.astore 5, 2) := by decide +kernel
theorem dX6_putOffLast_24 : decode cX6_putOffLast 24 = .ok (.aload 5, 2) := by decide +kernel
theorem dX6_putOffLast_26 : decode cX6_putOffLast 26 = .ok (.getfield 215, 3) := by decide +kernel
theorem dX6_putOffLast_29 : decode cX6_putOffLast 29 = .ok (.iload_n 1, 1) := by decide +kernel
theorem dX6_putOffLast_30 : decode cX6_putOffLast 30 = .ok (.if_icmp .ne 33, 3) := by decide +kernel
theorem dX6_putOffLast_33 : decode cX6_putOffLast 33 = .ok (.aload_n 0, 1) := by decide +kernel
theorem dX6_putOffLast_34 : decode cX6_putOffLast 34 = .ok (.getfield 60, 3) := by decide +kernel
theorem dX6_putOffLast_37 : decode cX6_putOffLast 37 = .ok (.aload 5, 2) := by decide +kernel
theorem dX6_putOffLast_39 : decode cX6_putOffLast 39 = .ok (.invokevirtual 315, 3) := by decide +kernel
theorem dX6_putOffLast_42 : decode cX6_putOffLast 42 = .ok (.ifCond .eq 21, 3) := by decide +kernel
theorem dX6_putOffLast_45 : decode cX6_putOffLast 45 = .ok (.aload 5, 2) := by decide +kernel
theorem dX6_putOffLast_47 : decode cX6_putOffLast 47 = .ok (.getfield 319, 3) := by decide +kernel
theorem dX6_putOffLast_50 : decode cX6_putOffLast 50 = .ok (.iload_n 3, 1) := by decide +kernel
theorem dX6_putOffLast_51 : decode cX6_putOffLast 51 = .ok (.if_icmp .le 12, 3) := by decide +kernel
theorem dX6_putOffLast_54 : decode cX6_putOffLast 54 = .ok (.iload 4, 2) := by decide +kernel
theorem dX6_putOffLast_56 : decode cX6_putOffLast 56 = .ok (.istore_n 2, 1) := by decide +kernel
theorem dX6_putOffLast_57 : decode cX6_putOffLast 57 = .ok (.aload 5, 2) := by decide +kernel
theorem dX6_putOffLast_59 : decode cX6_putOffLast 59 = .ok (.getfield 319, 3) := by decide +kernel
theorem dX6_putOffLast_62 : decode cX6_putOffLast 62 = .ok (.istore_n 3, 1) := by decide +kernel
theorem dX6_putOffLast_63 : decode cX6_putOffLast 63 = .ok (.iinc 4 1, 3) := by decide +kernel
theorem dX6_putOffLast_66 : decode cX6_putOffLast 66 = .ok (.goto (-59), 3) := by decide +kernel
theorem dX6_putOffLast_69 : decode cX6_putOffLast 69 = .ok (.iload_n 2, 1) := by decide +kernel
theorem dX6_putOffLast_70 : decode cX6_putOffLast 70 = .ok (.iconst (-1), 1) := by decide +kernel
theorem dX6_putOffLast_71 : decode cX6_putOffLast 71 = .ok (.if_icmp .eq 15, 3) := by decide +kernel
theorem dX6_putOffLast_74 : decode cX6_putOffLast 74 = .ok (.aload_n 0, 1) := by decide +kernel
theorem dX6_putOffLast_75 : decode cX6_putOffLast 75 = .ok (.getfield 60, 3) := by decide +kernel
theorem dX6_putOffLast_78 : decode cX6_putOffLast 78 = .ok (.aload_n 0, 1) := by decide +kernel
theorem dX6_putOffLast_79 : decode cX6_putOffLast 79 = .ok (.iload_n 2, 1) := by decide +kernel
theorem dX6_putOffLast_80 : decode cX6_putOffLast 80 = .ok (.invokevirtual 211, 3) := by decide +kernel
theorem dX6_putOffLast_83 : decode cX6_putOffLast 83 = .ok (.invokevirtual 322, 3) := by decide +kernel
theorem dX6_putOffLast_86 : decode cX6_putOffLast 86 = .ok (.return_, 1) := by decide +kernel
theorem dX6_sendOver_0 : decode cX6_sendOver 0 = .ok (.iconst 0, 1) := by decide +kernel
theorem dX6_sendOver_1 : decode cX6_sendOver 1 = .ok (.istore_n 2, 1) := by decide +kernel
theorem dX6_sendOver_2 : decode cX6_sendOver 2 = .ok (.iconst 0, 1) := by decide +kernel
theorem dX6_sendOver_3 : decode cX6_sendOver 3 = .ok (.istore_n 3, 1) := by decide +kernel
theorem dX6_sendOver_4 : decode cX6_sendOver 4 = .ok (.iload_n 3, 1) := by decide +kernel
theorem dX6_sendOver_5 : decode cX6_sendOver 5 = .ok (.aload_n 0, 1) := by decide +kernel
theorem dX6_sendOver_6 : decode cX6_sendOver 6 = .ok (.getfield 74, 3) := by decide +kernel
theorem dX6_sendOver_9 : decode cX6_sendOver 9 = .ok (.if_icmp .ge 47, 3) := by decide +kernel
theorem dX6_sendOver_12 : decode cX6_sendOver 12 = .ok (.aload_n 0, 1) := by decide +kernel
theorem dX6_sendOver_13 : decode cX6_sendOver 13 = .ok (.iload_n 3, 1) := by decide +kernel
theorem dX6_sendOver_14 : decode cX6_sendOver 14 = .ok (.invokevirtual 211, 3) := by decide +kernel
theorem dX6_sendOver_17 : decode cX6_sendOver 17 = .ok (.astore 4, 2) := by decide +kernel
theorem dX6_sendOver_19 : decode cX6_sendOver 19 = .ok (.aload 4, 2) := by decide +kernel
theorem dX6_sendOver_21 : decode cX6_sendOver 21 = .ok (.getfield 215, 3) := by decide +kernel
theorem dX6_sendOver_24 : decode cX6_sendOver 24 = .ok (.iload_n 1, 1) := by decide +kernel
theorem dX6_sendOver_25 : decode cX6_sendOver 25 = .ok (.if_icmp .ne 25, 3) := by decide +kernel
theorem dX6_sendOver_28 : decode cX6_sendOver 28 = .ok (.aload 4, 2) := by decide +kernel
theorem dX6_sendOver_30 : decode cX6_sendOver 30 = .ok (.getfield 246, 3) := by decide +kernel
theorem dX6_sendOver_33 : decode cX6_sendOver 33 = .ok (.ifCond .ne 17, 3) := by decide +kernel
theorem dX6_sendOver_36 : decode cX6_sendOver 36 = .ok (.aload_n 0, 1) := by decide +kernel
theorem dX6_sendOver_37 : decode cX6_sendOver 37 = .ok (.aload 4, 2) := by decide +kernel
theorem dX6_sendOver_39 : decode cX6_sendOver 39 = .ok (.aload_n 0, 1) := by decide +kernel
theorem dX6_sendOver_40 : decode cX6_sendOver 40 = .ok (.iload_n 1, 1) := by decide +kernel
theorem dX6_sendOver_41 : decode cX6_sendOver 41 = .ok (.invokevirtual 325, 3) := by decide +kernel
theorem dX6_sendOver_44 : decode cX6_sendOver 44 = .ok (.invokevirtual 328, 3) := by decide +kernel
theorem dX6_sendOver_47 : decode cX6_sendOver 47 = .ok (.iinc 2 1, 3) := by decide +kernel
theorem dX6_sendOver_50 : decode cX6_sendOver 50 = .ok (.iinc 3 1, 3) := by decide +kernel
theorem dX6_sendOver_53 : decode cX6_sendOver 53 = .ok (.goto (-49), 3) := by decide +kernel
theorem dX6_sendOver_56 : decode cX6_sendOver 56 = .ok (.iload_n 2, 1) := by decide +kernel
theorem dX6_sendOver_57 : decode cX6_sendOver 57 = .ok (.ireturn, 1) := by decide +kernel
theorem dX6_nextLike_0 : decode cX6_nextLike 0 = .ok (.aload_n 0, 1) := by decide +kernel
theorem dX6_nextLike_1 : decode cX6_nextLike 1 = .ok (.iload_n 1, 1) := by decide +kernel
theorem dX6_nextLike_2 : decode cX6_nextLike 2 = .ok (.invokevirtual 152, 3) := by decide +kernel
theorem dX6_nextLike_5 : decode cX6_nextLike 5 = .ok (.astore_n 2, 1) := by decide +kernel
theorem dX6_nextLike_6 : decode cX6_nextLike 6 = .ok (.iconst (-1), 1) := by decide +kernel
theorem dX6_nextLike_7 : decode cX6_nextLike 7 = .ok (.istore_n 3, 1) := by decide +kernel
theorem dX6_nextLike_8 : decode cX6_nextLike 8 = .ok (.sipush 10001, 3) := by decide +kernel
theorem dX6_nextLike_11 : decode cX6_nextLike 11 = .ok (.istore 4, 2) := by decide +kernel
theorem dX6_nextLike_13 : decode cX6_nextLike 13 = .ok (.iconst 0, 1) := by decide +kernel
theorem dX6_nextLike_14 : decode cX6_nextLike 14 = .ok (.istore 5, 2) := by decide +kernel
theorem dX6_nextLike_16 : decode cX6_nextLike 16 = .ok (.iload 5, 2) := by decide +kernel
theorem dX6_nextLike_18 : decode cX6_nextLike 18 = .ok (.aload_n 0, 1) := by decide +kernel
theorem dX6_nextLike_19 : decode cX6_nextLike 19 = .ok (.getfield 71, 3) := by decide +kernel
theorem dX6_nextLike_22 : decode cX6_nextLike 22 = .ok (.if_icmp .ge 69, 3) := by decide +kernel
theorem dX6_nextLike_25 : decode cX6_nextLike 25 = .ok (.aload_n 0, 1) := by decide +kernel
theorem dX6_nextLike_26 : decode cX6_nextLike 26 = .ok (.iload 5, 2) := by decide +kernel
theorem dX6_nextLike_28 : decode cX6_nextLike 28 = .ok (.invokevirtual 152, 3) := by decide +kernel
theorem dX6_nextLike_31 : decode cX6_nextLike 31 = .ok (.astore 6, 2) := by decide +kernel
theorem dX6_nextLike_33 : decode cX6_nextLike 33 = .ok (.aload 6, 2) := by decide +kernel
theorem dX6_nextLike_35 : decode cX6_nextLike 35 = .ok (.getfield 166, 3) := by decide +kernel
theorem dX6_nextLike_38 : decode cX6_nextLike 38 = .ok (.ifCond .ne 47, 3) := by decide +kernel
theorem dX6_nextLike_41 : decode cX6_nextLike 41 = .ok (.aload 6, 2) := by decide +kernel
theorem dX6_nextLike_43 : decode cX6_nextLike 43 = .ok (.getfield 183, 3) := by decide +kernel
theorem dX6_nextLike_46 : decode cX6_nextLike 46 = .ok (.aload_n 2, 1) := by decide +kernel
theorem dX6_nextLike_47 : decode cX6_nextLike 47 = .ok (.getfield 183, 3) := by decide +kernel
theorem dX6_nextLike_50 : decode cX6_nextLike 50 = .ok (.if_icmp .ne 35, 3) := by decide +kernel
theorem dX6_nextLike_53 : decode cX6_nextLike 53 = .ok (.aload 6, 2) := by decide +kernel
theorem dX6_nextLike_55 : decode cX6_nextLike 55 = .ok (.getfield 156, 3) := by decide +kernel
theorem dX6_nextLike_58 : decode cX6_nextLike 58 = .ok (.aload_n 2, 1) := by decide +kernel
theorem dX6_nextLike_59 : decode cX6_nextLike 59 = .ok (.getfield 156, 3) := by decide +kernel
theorem dX6_nextLike_62 : decode cX6_nextLike 62 = .ok (.if_icmp .ne 23, 3) := by decide +kernel
theorem dX6_nextLike_65 : decode cX6_nextLike 65 = .ok (.aload 6, 2) := by decide +kernel
theorem dX6_nextLike_67 : decode cX6_nextLike 67 = .ok (.getfield 271, 3) := by decide +kernel
theorem dX6_nextLike_70 : decode cX6_nextLike 70 = .ok (.iload 4, 2) := by decide +kernel
theorem dX6_nextLike_72 : decode cX6_nextLike 72 = .ok (.if_icmp .ge 13, 3) := by decide +kernel
theorem dX6_nextLike_75 : decode cX6_nextLike 75 = .ok (.iload 5, 2) := by decide +kernel
theorem dX6_nextLike_77 : decode cX6_nextLike 77 = .ok (.istore_n 3, 1) := by decide +kernel
theorem dX6_nextLike_78 : decode cX6_nextLike 78 = .ok (.aload 6, 2) := by decide +kernel
theorem dX6_nextLike_80 : decode cX6_nextLike 80 = .ok (.getfield 271, 3) := by decide +kernel
theorem dX6_nextLike_83 : decode cX6_nextLike 83 = .ok (.istore 4, 2) := by decide +kernel
theorem dX6_nextLike_85 : decode cX6_nextLike 85 = .ok (.iinc 5 1, 3) := by decide +kernel
theorem dX6_nextLike_88 : decode cX6_nextLike 88 = .ok (.goto (-72), 3) := by decide +kernel
theorem dX6_nextLike_91 : decode cX6_nextLike 91 = .ok (.iload_n 3, 1) := by decide +kernel
theorem dX6_nextLike_92 : decode cX6_nextLike 92 = .ok (.ireturn, 1) := by decide +kernel
theorem dX6_goOver_0 : decode cX6_goOver 0 = .ok (.iload_n 2, 1) := by decide +kernel
theorem dX6_goOver_1 : decode cX6_goOver 1 = .ok (.iconst (-1), 1) := by decide +kernel
theorem dX6_goOver_2 : decode cX6_goOver 2 = .ok (.if_icmp .eq 11, 3) := by decide +kernel
theorem dX6_goOver_5 : decode cX6_goOver 5 = .ok (.aload_n 1, 1) := by decide +kernel
theorem dX6_goOver_6 : decode cX6_goOver 6 = .ok (.getfield 331, 3) := by decide +kernel
theorem dX6_goOver_9 : decode cX6_goOver 9 = .ok (.iconst 2, 1) := by decide +kernel
theorem dX6_goOver_10 : decode cX6_goOver 10 = .ok (.if_icmp .lt 11, 3) := by decide +kernel
theorem dX6_goOver_13 : decode cX6_goOver 13 = .ok (.aload_n 0, 1) := by decide +kernel
theorem dX6_goOver_14 : decode cX6_goOver 14 = .ok (.aload_n 1, 1) := by decide +kernel
theorem dX6_goOver_15 : decode cX6_goOver 15 = .ok (.invokevirtual 334, 3) := by decide +kernel
theorem dX6_goOver_18 : decode cX6_goOver 18 = .ok (.goto 18, 3) := by decide +kernel
theorem dX6_goOver_21 : decode cX6_goOver 21 = .ok (.aload_n 1, 1) := by decide +kernel
theorem dX6_goOver_22 : decode cX6_goOver 22 = .ok (.iload_n 2, 1) := by decide +kernel
theorem dX6_goOver_23 : decode cX6_goOver 23 = .ok (.putfield 215, 3) := by decide +kernel
theorem dX6_goOver_26 : decode cX6_goOver 26 = .ok (.aload_n 1, 1) := by decide +kernel
theorem dX6_goOver_27 : decode cX6_goOver 27 = .ok (.dup, 1) := by decide +kernel
theorem dX6_goOver_28 : decode cX6_goOver 28 = .ok (.getfield 331, 3) := by decide +kernel
theorem dX6_goOver_31 : decode cX6_goOver 31 = .ok (.iconst 1, 1) := by decide +kernel
theorem dX6_goOver_32 : decode cX6_goOver 32 = .ok (.iadd, 1) := by decide +kernel
theorem dX6_goOver_33 : decode cX6_goOver 33 = .ok (.putfield 331, 3) := by decide +kernel
theorem dX6_goOver_36 : decode cX6_goOver 36 = .ok (.return_, 1) := by decide +kernel
theorem dX6_fareFor_0 : decode cX6_fareFor 0 = .ok (.iload_n 0, 1) := by decide +kernel
theorem dX6_fareFor_1 : decode cX6_fareFor 1 = .ok (.tableswitch 34 0 2 #[27, 29, 31], 27) := by decide +kernel
theorem dX6_fareFor_28 : decode cX6_fareFor 28 = .ok (.iconst 2, 1) := by decide +kernel
theorem dX6_fareFor_29 : decode cX6_fareFor 29 = .ok (.ireturn, 1) := by decide +kernel
theorem dX6_fareFor_30 : decode cX6_fareFor 30 = .ok (.iconst 5, 1) := by decide +kernel
theorem dX6_fareFor_31 : decode cX6_fareFor 31 = .ok (.ireturn, 1) := by decide +kernel
theorem dX6_fareFor_32 : decode cX6_fareFor 32 = .ok (.bipush 8, 2) := by decide +kernel
theorem dX6_fareFor_34 : decode cX6_fareFor 34 = .ok (.ireturn, 1) := by decide +kernel
theorem dX6_fareFor_35 : decode cX6_fareFor 35 = .ok (.bipush 20, 2) := by decide +kernel
theorem dX6_fareFor_37 : decode cX6_fareFor 37 = .ok (.ireturn, 1) := by decide +kernel
theorem dX6_payFor_0 : decode cX6_payFor 0 = .ok (.aload_n 1, 1) := by decide +kernel
theorem dX6_payFor_1 : decode cX6_payFor 1 = .ok (.aload_n 1, 1) := by decide +kernel
theorem dX6_payFor_2 : decode cX6_payFor 2 = .ok (.getfield 230, 3) := by decide +kernel
theorem dX6_payFor_5 : decode cX6_payFor 5 = .ok (.ifCond .eq 9, 3) := by decide +kernel
theorem dX6_payFor_8 : decode cX6_payFor 8 = .ok (.iload_n 2, 1) := by decide +kernel
theorem dX6_payFor_9 : decode cX6_payFor 9 = .ok (.iconst 2, 1) := by decide +kernel
theorem dX6_payFor_10 : decode cX6_payFor 10 = .ok (.idiv, 1) := by decide +kernel
theorem dX6_payFor_11 : decode cX6_payFor 11 = .ok (.goto 4, 3) := by decide +kernel
theorem dX6_payFor_14 : decode cX6_payFor 14 = .ok (.iload_n 2, 1) := by decide +kernel
theorem dX6_payFor_15 : decode cX6_payFor 15 = .ok (.putfield 243, 3) := by decide +kernel
theorem dX6_payFor_18 : decode cX6_payFor 18 = .ok (.aload_n 1, 1) := by decide +kernel
theorem dX6_payFor_19 : decode cX6_payFor 19 = .ok (.iload_n 2, 1) := by decide +kernel
theorem dX6_payFor_20 : decode cX6_payFor 20 = .ok (.aload_n 1, 1) := by decide +kernel
theorem dX6_payFor_21 : decode cX6_payFor 21 = .ok (.getfield 243, 3) := by decide +kernel
theorem dX6_payFor_24 : decode cX6_payFor 24 = .ok (.isub, 1) := by decide +kernel
theorem dX6_payFor_25 : decode cX6_payFor 25 = .ok (.putfield 255, 3) := by decide +kernel
theorem dX6_payFor_28 : decode cX6_payFor 28 = .ok (.aload_n 0, 1) := by decide +kernel
theorem dX6_payFor_29 : decode cX6_payFor 29 = .ok (.getfield 43, 3) := by decide +kernel
theorem dX6_payFor_32 : decode cX6_payFor 32 = .ok (.iconst 0, 1) := by decide +kernel
theorem dX6_payFor_33 : decode cX6_payFor 33 = .ok (.dup2, 1) := by decide +kernel
theorem dX6_payFor_34 : decode cX6_payFor 34 = .ok (.laload, 1) := by decide +kernel
theorem dX6_payFor_35 : decode cX6_payFor 35 = .ok (.aload_n 1, 1) := by decide +kernel
theorem dX6_payFor_36 : decode cX6_payFor 36 = .ok (.getfield 243, 3) := by decide +kernel
theorem dX6_payFor_39 : decode cX6_payFor 39 = .ok (.i2l, 1) := by decide +kernel
theorem dX6_payFor_40 : decode cX6_payFor 40 = .ok (.ladd, 1) := by decide +kernel
theorem dX6_payFor_41 : decode cX6_payFor 41 = .ok (.lastore, 1) := by decide +kernel
theorem dX6_payFor_42 : decode cX6_payFor 42 = .ok (.aload_n 0, 1) := by decide +kernel
theorem dX6_payFor_43 : decode cX6_payFor 43 = .ok (.getfield 43, 3) := by decide +kernel
theorem dX6_payFor_46 : decode cX6_payFor 46 = .ok (.iconst 1, 1) := by decide +kernel
theorem dX6_payFor_47 : decode cX6_payFor 47 = .ok (.dup2, 1) := by decide +kernel
theorem dX6_payFor_48 : decode cX6_payFor 48 = .ok (.laload, 1) := by decide +kernel
theorem dX6_payFor_49 : decode cX6_payFor 49 = .ok (.aload_n 1, 1) := by decide +kernel
theorem dX6_payFor_50 : decode cX6_payFor 50 = .ok (.getfield 255, 3) := by decide +kernel
theorem dX6_payFor_53 : decode cX6_payFor 53 = .ok (.i2l, 1) := by decide +kernel
theorem dX6_payFor_54 : decode cX6_payFor 54 = .ok (.ladd, 1) := by decide +kernel
theorem dX6_payFor_55 : decode cX6_payFor 55 = .ok (.lastore, 1) := by decide +kernel
theorem dX6_payFor_56 : decode cX6_payFor 56 = .ok (.return_, 1) := by decide +kernel
theorem dX6_payBack_0 : decode cX6_payBack 0 = .ok (.aload_n 0, 1) := by decide +kernel
theorem dX6_payBack_1 : decode cX6_payBack 1 = .ok (.getfield 43, 3) := by decide +kernel
theorem dX6_payBack_4 : decode cX6_payBack 4 = .ok (.iconst 0, 1) := by decide +kernel
theorem dX6_payBack_5 : decode cX6_payBack 5 = .ok (.dup2, 1) := by decide +kernel
theorem dX6_payBack_6 : decode cX6_payBack 6 = .ok (.laload, 1) := by decide +kernel
theorem dX6_payBack_7 : decode cX6_payBack 7 = .ok (.aload_n 1, 1) := by decide +kernel
theorem dX6_payBack_8 : decode cX6_payBack 8 = .ok (.getfield 243, 3) := by decide +kernel
theorem dX6_payBack_11 : decode cX6_payBack 11 = .ok (.i2l, 1) := by decide +kernel
theorem dX6_payBack_12 : decode cX6_payBack 12 = .ok (.lsub, 1) := by decide +kernel
theorem dX6_payBack_13 : decode cX6_payBack 13 = .ok (.lastore, 1) := by decide +kernel
theorem dX6_payBack_14 : decode cX6_payBack 14 = .ok (.aload_n 0, 1) := by decide +kernel
theorem dX6_payBack_15 : decode cX6_payBack 15 = .ok (.getfield 43, 3) := by decide +kernel
theorem dX6_payBack_18 : decode cX6_payBack 18 = .ok (.iconst 1, 1) := by decide +kernel
theorem dX6_payBack_19 : decode cX6_payBack 19 = .ok (.dup2, 1) := by decide +kernel
theorem dX6_payBack_20 : decode cX6_payBack 20 = .ok (.laload, 1) := by decide +kernel
theorem dX6_payBack_21 : decode cX6_payBack 21 = .ok (.aload_n 1, 1) := by decide +kernel
theorem dX6_payBack_22 : decode cX6_payBack 22 = .ok (.getfield 255, 3) := by decide +kernel
theorem dX6_payBack_25 : decode cX6_payBack 25 = .ok (.i2l, 1) := by decide +kernel
theorem dX6_payBack_26 : decode cX6_payBack 26 = .ok (.lsub, 1) := by decide +kernel
theorem dX6_payBack_27 : decode cX6_payBack 27 = .ok (.lastore, 1) := by decide +kernel
theorem dX6_payBack_28 : decode cX6_payBack 28 = .ok (.aload_n 1, 1) := by decide +kernel
theorem dX6_payBack_29 : decode cX6_payBack 29 = .ok (.iconst 0, 1) := by decide +kernel
theorem dX6_payBack_30 : decode cX6_payBack 30 = .ok (.putfield 243, 3) := by decide +kernel
theorem dX6_payBack_33 : decode cX6_payBack 33 = .ok (.aload_n 1, 1) := by decide +kernel
theorem dX6_payBack_34 : decode cX6_payBack 34 = .ok (.iconst 0, 1) := by decide +kernel
theorem dX6_payBack_35 : decode cX6_payBack 35 = .ok (.putfield 255, 3) := by decide +kernel
theorem dX6_payBack_38 : decode cX6_payBack 38 = .ok (.aload_n 1, 1) := by decide +kernel
theorem dX6_payBack_39 : decode cX6_payBack 39 = .ok (.iconst (-1), 1) := by decide +kernel
theorem dX6_payBack_40 : decode cX6_payBack 40 = .ok (.putfield 215, 3) := by decide +kernel
theorem dX6_payBack_43 : decode cX6_payBack 43 = .ok (.return_, 1) := by decide +kernel
end
section
theorem dX7_init_0 : decode cX7_init 0 = .ok (.aload_n 0, 1) := by decide +kernel
theorem dX7_init_1 : decode cX7_init 1 = .ok (.invokespecial 1, 3) := by decide +kernel
theorem dX7_init_4 : decode cX7_init 4 = .ok (.aload_n 0, 1) := by decide +kernel
theorem dX7_init_5 : decode cX7_init 5 = .ok (.iconst 4, 1) := by decide +kernel
theorem dX7_init_6 : decode cX7_init 6 = .ok (.newarray .int, 2) := by decide +kernel
theorem dX7_init_8 : decode cX7_init 8 = .ok (.putfield 7, 3) := by decide +kernel
theorem dX7_init_11 : decode cX7_init 11 = .ok (.aload_n 0, 1) := by decide +kernel
theorem dX7_init_12 : decode cX7_init 12 = .ok (.iconst 4, 1) := by decide +kernel
theorem dX7_init_13 : decode cX7_init 13 = .ok (.newarray .int, 2) := by decide +kernel
theorem dX7_init_15 : decode cX7_init 15 = .ok (.putfield 13, 3) := by decide +kernel
theorem dX7_init_18 : decode cX7_init 18 = .ok (.aload_n 0, 1) := by decide +kernel
theorem dX7_init_19 : decode cX7_init 19 = .ok (.iconst 4, 1) := by decide +kernel
theorem dX7_init_20 : decode cX7_init 20 = .ok (.newarray .int, 2) := by decide +kernel
theorem dX7_init_22 : decode cX7_init 22 = .ok (.putfield 16, 3) := by decide +kernel
theorem dX7_init_25 : decode cX7_init 25 = .ok (.aload_n 0, 1) := by decide +kernel
theorem dX7_init_26 : decode cX7_init 26 = .ok (.iconst 4, 1) := by decide +kernel
theorem dX7_init_27 : decode cX7_init 27 = .ok (.newarray .int, 2) := by decide +kernel
theorem dX7_init_29 : decode cX7_init 29 = .ok (.putfield 19, 3) := by decide +kernel
theorem dX7_init_32 : decode cX7_init 32 = .ok (.aload_n 0, 1) := by decide +kernel
theorem dX7_init_33 : decode cX7_init 33 = .ok (.iconst 4, 1) := by decide +kernel
theorem dX7_init_34 : decode cX7_init 34 = .ok (.newarray .int, 2) := by decide +kernel
theorem dX7_init_36 : decode cX7_init 36 = .ok (.putfield 22, 3) := by decide +kernel
theorem dX7_init_39 : decode cX7_init 39 = .ok (.aload_n 0, 1) := by decide +kernel
theorem dX7_init_40 : decode cX7_init 40 = .ok (.iconst 4, 1) := by decide +kernel
theorem dX7_init_41 : decode cX7_init 41 = .ok (.newarray .int, 2) := by decide +kernel
theorem dX7_init_43 : decode cX7_init 43 = .ok (.putfield 25, 3) := by decide +kernel
theorem dX7_init_46 : decode cX7_init 46 = .ok (.aload_n 0, 1) := by decide +kernel
theorem dX7_init_47 : decode cX7_init 47 = .ok (.iconst 4, 1) := by decide +kernel
theorem dX7_init_48 : decode cX7_init 48 = .ok (.newarray .int, 2) := by decide +kernel
theorem dX7_init_50 : decode cX7_init 50 = .ok (.putfield 28, 3) := by decide +kernel
theorem dX7_init_53 : decode cX7_init 53 = .ok (.aload_n 0, 1) := by decide +kernel
theorem dX7_init_54 : decode cX7_init 54 = .ok (.bipush 6, 2) := by decide +kernel
theorem dX7_init_56 : decode cX7_init 56 = .ok (.newarray .int, 2) := by decide +kernel
theorem dX7_init_58 : decode cX7_init 58 = .ok (.putfield 31, 3) := by decide +kernel
theorem dX7_init_61 : decode cX7_init 61 = .ok (.aload_n 0, 1) := by decide +kernel
theorem dX7_init_62 : decode cX7_init 62 = .ok (.bipush 6, 2) := by decide +kernel
theorem dX7_init_64 : decode cX7_init 64 = .ok (.newarray .int, 2) := by decide +kernel
theorem dX7_init_66 : decode cX7_init 66 = .ok (.putfield 34, 3) := by decide +kernel
theorem dX7_init_69 : decode cX7_init 69 = .ok (.aload_n 0, 1) := by decide +kernel
theorem dX7_init_70 : decode cX7_init 70 = .ok (.bipush 6, 2) := by decide +kernel
theorem dX7_init_72 : decode cX7_init 72 = .ok (.newarray .int, 2) := by decide +kernel
theorem dX7_init_74 : decode cX7_init 74 = .ok (.putfield 37, 3) := by decide +kernel
theorem dX7_init_77 : decode cX7_init 77 = .ok (.aload_n 0, 1) := by decide +kernel
theorem dX7_init_78 : decode cX7_init 78 = .ok (.sipush 3006, 3) := by decide +kernel
theorem dX7_init_81 : decode cX7_init 81 = .ok (.newarray .int, 2) := by decide +kernel
theorem dX7_init_83 : decode cX7_init 83 = .ok (.putfield 40, 3) := by decide +kernel
theorem dX7_init_86 : decode cX7_init 86 = .ok (.aload_n 0, 1) := by decide +kernel
theorem dX7_init_87 : decode cX7_init 87 = .ok (.bipush 6, 2) := by decide +kernel
theorem dX7_init_89 : decode cX7_init 89 = .ok (.newarray .int, 2) := by decide +kernel
theorem dX7_init_91 : decode cX7_init 91 = .ok (.putfield 43, 3) := by decide +kernel
theorem dX7_init_94 : decode cX7_init 94 = .ok (.aload_n 0, 1) := by decide +kernel
theorem dX7_init_95 : decode cX7_init 95 = .ok (.bipush 6, 2) := by decide +kernel
theorem dX7_init_97 : decode cX7_init 97 = .ok (.newarray .int, 2) := by decide +kernel
theorem dX7_init_99 : decode cX7_init 99 = .ok (.putfield 46, 3) := by decide +kernel
theorem dX7_init_102 : decode cX7_init 102 = .ok (.aload_n 0, 1) := by decide +kernel
theorem dX7_init_103 : decode cX7_init 103 = .ok (.bipush 6, 2) := by decide +kernel
theorem dX7_init_105 : decode cX7_init 105 = .ok (.newarray .int, 2) := by decide +kernel
theorem dX7_init_107 : decode cX7_init 107 = .ok (.putfield 49, 3) := by decide +kernel
theorem dX7_init_110 : decode cX7_init 110 = .ok (.aload_n 0, 1) := by decide +kernel
theorem dX7_init_111 : decode cX7_init 111 = .ok (.bipush 6, 2) := by decide +kernel
theorem dX7_init_113 : decode cX7_init 113 = .ok (.newarray .int, 2) := by decide +kernel
theorem dX7_init_115 : decode cX7_init 115 = .ok (.putfield 52, 3) := by decide +kernel
theorem dX7_init_118 : decode cX7_init 118 = .ok (.aload_n 0, 1) := by decide +kernel
theorem dX7_init_119 : decode cX7_init 119 = .ok (.bipush 10, 2) := by decide +kernel
theorem dX7_init_121 : decode cX7_init 121 = .ok (.newarray .int, 2) := by decide +kernel
theorem dX7_init_123 : decode cX7_init 123 = .ok (.putfield 55, 3) := by decide +kernel
theorem dX7_init_126 : decode cX7_init 126 = .ok (.aload_n 0, 1) := by decide +kernel
theorem dX7_init_127 : decode cX7_init 127 = .ok (.bipush 24, 2) := by decide +kernel
theorem dX7_init_129 : decode cX7_init 129 = .ok (.newarray .int, 2) := by decide +kernel
theorem dX7_init_131 : decode cX7_init 131 = .ok (.putfield 58, 3) := by decide +kernel
theorem dX7_init_134 : decode cX7_init 134 = .ok (.aload_n 0, 1) := by decide +kernel
theorem dX7_init_135 : decode cX7_init 135 = .ok (.bipush 24, 2) := by decide +kernel
theorem dX7_init_137 : decode cX7_init 137 = .ok (.newarray .int, 2) := by decide +kernel
theorem dX7_init_139 : decode cX7_init 139 = .ok (.putfield 61, 3) := by decide +kernel
theorem dX7_init_142 : decode cX7_init 142 = .ok (.aload_n 0, 1) := by decide +kernel
theorem dX7_init_143 : decode cX7_init 143 = .ok (.bipush 24, 2) := by decide +kernel
theorem dX7_init_145 : decode cX7_init 145 = .ok (.newarray .int, 2) := by decide +kernel
theorem dX7_init_147 : decode cX7_init 147 = .ok (.putfield 64, 3) := by decide +kernel
theorem dX7_init_150 : decode cX7_init 150 = .ok (.aload_n 0, 1) := by decide +kernel
theorem dX7_init_151 : decode cX7_init 151 = .ok (.bipush 24, 2) := by decide +kernel
theorem dX7_init_153 : decode cX7_init 153 = .ok (.newarray .int, 2) := by decide +kernel
theorem dX7_init_155 : decode cX7_init 155 = .ok (.putfield 67, 3) := by decide +kernel
theorem dX7_init_158 : decode cX7_init 158 = .ok (.aload_n 0, 1) := by decide +kernel
theorem dX7_init_159 : decode cX7_init 159 = .ok (.bipush 24, 2) := by decide +kernel
theorem dX7_init_161 : decode cX7_init 161 = .ok (.newarray .int, 2) := by decide +kernel
theorem dX7_init_163 : decode cX7_init 163 = .ok (.putfield 70, 3) := by decide +kernel
theorem dX7_init_166 : decode cX7_init 166 = .ok (.aload_n 0, 1) := by decide +kernel
theorem dX7_init_167 : decode cX7_init 167 = .ok (.bipush 24, 2) := by decide +kernel
theorem dX7_init_169 : decode cX7_init 169 = .ok (.newarray .int, 2) := by decide +kernel
theorem dX7_init_171 : decode cX7_init 171 = .ok (.putfield 73, 3) := by decide +kernel
theorem dX7_init_174 : decode cX7_init 174 = .ok (.aload_n 0, 1) := by decide +kernel
theorem dX7_init_175 : decode cX7_init 175 = .ok (.bipush 24, 2) := by decide +kernel
theorem dX7_init_177 : decode cX7_init 177 = .ok (.newarray .int, 2) := by decide +kernel
theorem dX7_init_179 : decode cX7_init 179 = .ok (.putfield 76, 3) := by decide +kernel
theorem dX7_init_182 : decode cX7_init 182 = .ok (.aload_n 0, 1) := by decide +kernel
theorem dX7_init_183 : decode cX7_init 183 = .ok (.bipush 24, 2) := by decide +kernel
theorem dX7_init_185 : decode cX7_init 185 = .ok (.newarray .int, 2) := by decide +kernel
theorem dX7_init_187 : decode cX7_init 187 = .ok (.putfield 79, 3) := by decide +kernel
theorem dX7_init_190 : decode cX7_init 190 = .ok (.aload_n 0, 1) := by decide +kernel
theorem dX7_init_191 : decode cX7_init 191 = .ok (.bipush 24, 2) := by decide +kernel
theorem dX7_init_193 : decode cX7_init 193 = .ok (.newarray .int, 2) := by decide +kernel
theorem dX7_init_195 : decode cX7_init 195 = .ok (.putfield 82, 3) := by decide +kernel
theorem dX7_init_198 : decode cX7_init 198 = .ok (.aload_n 0, 1) := by decide +kernel
theorem dX7_init_199 : decode cX7_init 199 = .ok (.bipush 24, 2) := by decide +kernel
theorem dX7_init_201 : decode cX7_init 201 = .ok (.newarray .int, 2) := by decide +kernel
theorem dX7_init_203 : decode cX7_init 203 = .ok (.putfield 85, 3) := by decide +kernel
theorem dX7_init_206 : decode cX7_init 206 = .ok (.aload_n 0, 1) := by decide +kernel
theorem dX7_init_207 : decode cX7_init 207 = .ok (.bipush 40, 2) := by decide +kernel
theorem dX7_init_209 : decode cX7_init 209 = .ok (.newarray .int, 2) := by decide +kernel
theorem dX7_init_211 : decode cX7_init 211 = .ok (.putfield 88, 3) := by decide +kernel
theorem dX7_init_214 : decode cX7_init 214 = .ok (.aload_n 0, 1) := by decide +kernel
theorem dX7_init_215 : decode cX7_init 215 = .ok (.bipush 40, 2) := by decide +kernel
theorem dX7_init_217 : decode cX7_init 217 = .ok (.newarray .int, 2) := by decide +kernel
theorem dX7_init_219 : decode cX7_init 219 = .ok (.putfield 91, 3) := by decide +kernel
theorem dX7_init_222 : decode cX7_init 222 = .ok (.aload_n 0, 1) := by decide +kernel
theorem dX7_init_223 : decode cX7_init 223 = .ok (.bipush 40, 2) := by decide +kernel
theorem dX7_init_225 : decode cX7_init 225 = .ok (.newarray .int, 2) := by decide +kernel
theorem dX7_init_227 : decode cX7_init 227 = .ok (.putfield 94, 3) := by decide +kernel
theorem dX7_init_230 : decode cX7_init 230 = .ok (.aload_n 0, 1) := by decide +kernel
theorem dX7_init_231 : decode cX7_init 231 = .ok (.bipush 40, 2) := by decide +kernel
theorem dX7_init_233 : decode cX7_init 233 = .ok (.newarray .int, 2) := by decide +kernel
theorem dX7_init_235 : decode cX7_init 235 = .ok (.putfield 97, 3) := by decide +kernel
theorem dX7_init_238 : decode cX7_init 238 = .ok (.aload_n 0, 1) := by decide +kernel
theorem dX7_init_239 : decode cX7_init 239 = .ok (.bipush 40, 2) := by decide +kernel
theorem dX7_init_241 : decode cX7_init 241 = .ok (.newarray .int, 2) := by decide +kernel
theorem dX7_init_243 : decode cX7_init 243 = .ok (.putfield 100, 3) := by decide +kernel
theorem dX7_init_246 : decode cX7_init 246 = .ok (.aload_n 0, 1) := by decide +kernel
theorem dX7_init_247 : decode cX7_init 247 = .ok (.bipush 40, 2) := by decide +kernel
theorem dX7_init_249 : decode cX7_init 249 = .ok (.newarray .int, 2) := by decide +kernel
theorem dX7_init_251 : decode cX7_init 251 = .ok (.putfield 103, 3) := by decide +kernel
theorem dX7_init_254 : decode cX7_init 254 = .ok (.aload_n 0, 1) := by decide +kernel
theorem dX7_init_255 : decode cX7_init 255 = .ok (.bipush 40, 2) := by decide +kernel
theorem dX7_init_257 : decode cX7_init 257 = .ok (.newarray .int, 2) := by decide +kernel
theorem dX7_init_259 : decode cX7_init 259 = .ok (.putfield 106, 3) := by decide +kernel
theorem dX7_init_262 : decode cX7_init 262 = .ok (.aload_n 0, 1) := by decide +kernel
theorem dX7_init_263 : decode cX7_init 263 = .ok (.bipush 40, 2) := by decide +kernel
theorem dX7_init_265 : decode cX7_init 265 = .ok (.newarray .int, 2) := by decide +kernel
theorem dX7_init_267 : decode cX7_init 267 = .ok (.putfield 109, 3) := by decide +kernel
theorem dX7_init_270 : decode cX7_init 270 = .ok (.aload_n 0, 1) := by decide +kernel
theorem dX7_init_271 : decode cX7_init 271 = .ok (.bipush 40, 2) := by decide +kernel
theorem dX7_init_273 : decode cX7_init 273 = .ok (.newarray .int, 2) := by decide +kernel
theorem dX7_init_275 : decode cX7_init 275 = .ok (.putfield 112, 3) := by decide +kernel
theorem dX7_init_278 : decode cX7_init 278 = .ok (.aload_n 0, 1) := by decide +kernel
theorem dX7_init_279 : decode cX7_init 279 = .ok (.bipush 40, 2) := by decide +kernel
theorem dX7_init_281 : decode cX7_init 281 = .ok (.newarray .int, 2) := by decide +kernel
theorem dX7_init_283 : decode cX7_init 283 = .ok (.putfield 115, 3) := by decide +kernel
theorem dX7_init_286 : decode cX7_init 286 = .ok (.aload_n 0, 1) := by decide +kernel
theorem dX7_init_287 : decode cX7_init 287 = .ok (.bipush 40, 2) := by decide +kernel
theorem dX7_init_289 : decode cX7_init 289 = .ok (.newarray .int, 2) := by decide +kernel
theorem dX7_init_291 : decode cX7_init 291 = .ok (.putfield 118, 3) := by decide +kernel
theorem dX7_init_294 : decode cX7_init 294 = .ok (.aload_n 0, 1) := by decide +kernel
theorem dX7_init_295 : decode cX7_init 295 = .ok (.bipush 40, 2) := by decide +kernel
theorem dX7_init_297 : decode cX7_init 297 = .ok (.newarray .int, 2) := by decide +kernel
theorem dX7_init_299 : decode cX7_init 299 = .ok (.putfield 121, 3) := by decide +kernel
theorem dX7_init_302 : decode cX7_init 302 = .ok (.aload_n 0, 1) := by decide +kernel
theorem dX7_init_303 : decode cX7_init 303 = .ok (.iconst 4, 1) := by decide +kernel
theorem dX7_init_304 : decode cX7_init 304 = .ok (.newarray .int, 2) := by decide +kernel
theorem dX7_init_306 : decode cX7_init 306 = .ok (.putfield 124, 3) := by decide +kernel
theorem dX7_init_309 : decode cX7_init 309 = .ok (.aload_n 0, 1) := by decide +kernel
theorem dX7_init_310 : decode cX7_init 310 = .ok (.iconst 4, 1) := by decide +kernel
theorem dX7_init_311 : decode cX7_init 311 = .ok (.newarray .int, 2) := by decide +kernel
theorem dX7_init_313 : decode cX7_init 313 = .ok (.putfield 127, 3) := by decide +kernel
theorem dX7_init_316 : decode cX7_init 316 = .ok (.aload_n 0, 1) := by decide +kernel
theorem dX7_init_317 : decode cX7_init 317 = .ok (.bipush 40, 2) := by decide +kernel
theorem dX7_init_319 : decode cX7_init 319 = .ok (.newarray .int, 2) := by decide +kernel
theorem dX7_init_321 : decode cX7_init 321 = .ok (.putfield 130, 3) := by decide +kernel
theorem dX7_init_324 : decode cX7_init 324 = .ok (.return_, 1) := by decide +kernel
theorem dX7_thrown_0 : decode cX7_thrown 0 = .ok (.aload_n 0, 1) := by decide +kernel
theorem dX7_thrown_1 : decode cX7_thrown 1 = .ok (.getfield 133, 3) := by decide +kernel
theorem dX7_thrown_4 : decode cX7_thrown 4 = .ok (.ireturn, 1) := by decide +kernel
theorem dX7_in_0 : decode cX7_in 0 = .ok (.iload_n 0, 1) := by decide +kernel
theorem dX7_in_1 : decode cX7_in 1 = .ok (.iload_n 1, 1) := by decide +kernel
theorem dX7_in_2 : decode cX7_in 2 = .ok (.if_icmp .lt 12, 3) := by decide +kernel
theorem dX7_in_5 : decode cX7_in 5 = .ok (.iload_n 0, 1) := by decide +kernel
theorem dX7_in_6 : decode cX7_in 6 = .ok (.iload_n 2, 1) := by decide +kernel
theorem dX7_in_7 : decode cX7_in 7 = .ok (.if_icmp .gt 7, 3) := by decide +kernel
theorem dX7_in_10 : decode cX7_in 10 = .ok (.iconst 1, 1) := by decide +kernel
theorem dX7_in_11 : decode cX7_in 11 = .ok (.goto 4, 3) := by decide +kernel
theorem dX7_in_14 : decode cX7_in 14 = .ok (.iconst 0, 1) := by decide +kernel
theorem dX7_in_15 : decode cX7_in 15 = .ok (.ireturn, 1) := by decide +kernel
theorem dX7_isIsland_0 : decode cX7_isIsland 0 = .ok (.iload_n 0, 1) := by decide +kernel
theorem dX7_isIsland_1 : decode cX7_isIsland 1 = .ok (.iconst 0, 1) := by decide +kernel
theorem dX7_isIsland_2 : decode cX7_isIsland 2 = .ok (.iconst 5, 1) := by decide +kernel
theorem dX7_isIsland_3 : decode cX7_isIsland 3 = .ok (.invokestatic 137, 3) := by decide +kernel
theorem dX7_isIsland_6 : decode cX7_isIsland 6 = .ok (.ireturn, 1) := by decide +kernel
theorem dX7_isShip_0 : decode cX7_isShip 0 = .ok (.iload_n 1, 1) := by decide +kernel
theorem dX7_isShip_1 : decode cX7_isShip 1 = .ok (.iconst 0, 1) := by decide +kernel
theorem dX7_isShip_2 : decode cX7_isShip 2 = .ok (.aload_n 0, 1) := by decide +kernel
theorem dX7_isShip_3 : decode cX7_isShip 3 = .ok (.getfield 141, 3) := by decide +kernel
theorem dX7_isShip_6 : decode cX7_isShip 6 = .ok (.iconst 1, 1) := by decide +kernel
theorem dX7_isShip_7 : decode cX7_isShip 7 = .ok (.isub, 1) := by decide +kernel
theorem dX7_isShip_8 : decode cX7_isShip 8 = .ok (.invokestatic 137, 3) := by decide +kernel
theorem dX7_isShip_11 : decode cX7_isShip 11 = .ok (.ireturn, 1) := by decide +kernel
theorem dX7_hasSailing_0 : decode cX7_hasSailing 0 = .ok (.aload_n 0, 1) := by decide +kernel
theorem dX7_hasSailing_1 : decode cX7_hasSailing 1 = .ok (.iload_n 1, 1) := by decide +kernel
theorem dX7_hasSailing_2 : decode cX7_hasSailing 2 = .ok (.iconst 0, 1) := by decide +kernel
theorem dX7_hasSailing_3 : decode cX7_hasSailing 3 = .ok (.aload_n 0, 1) := by decide +kernel
theorem dX7_hasSailing_4 : decode cX7_hasSailing 4 = .ok (.getfield 144, 3) := by decide +kernel
theorem dX7_hasSailing_7 : decode cX7_hasSailing 7 = .ok (.iconst 1, 1) := by decide +kernel
theorem dX7_hasSailing_8 : decode cX7_hasSailing 8 = .ok (.isub, 1) := by decide +kernel
theorem dX7_hasSailing_9 : decode cX7_hasSailing 9 = .ok (.invokestatic 137, 3) := by decide +kernel
theorem dX7_hasSailing_12 : decode cX7_hasSailing 12 = .ok (.ifCond .eq 7, 3) := by decide +kernel
theorem dX7_hasSailing_15 : decode cX7_hasSailing 15 = .ok (.iconst 0, 1) := by decide +kernel
theorem dX7_hasSailing_16 : decode cX7_hasSailing 16 = .ok (.goto 4, 3) := by decide +kernel
theorem dX7_hasSailing_19 : decode cX7_hasSailing 19 = .ok (.iconst 1, 1) := by decide +kernel
theorem dX7_hasSailing_20 : decode cX7_hasSailing 20 = .ok (.putfield 133, 3) := by decide +kernel
theorem dX7_hasSailing_23 : decode cX7_hasSailing 23 = .ok (.aload_n 0, 1) := by decide +kernel
theorem dX7_hasSailing_24 : decode cX7_hasSailing 24 = .ok (.getfield 133, 3) := by decide +kernel
theorem dX7_hasSailing_27 : decode cX7_hasSailing 27 = .ok (.ifCond .ne 7, 3) := by decide +kernel
theorem dX7_hasSailing_30 : decode cX7_hasSailing 30 = .ok (.iconst 1, 1) := by decide +kernel
theorem dX7_hasSailing_31 : decode cX7_hasSailing 31 = .ok (.goto 4, 3) := by decide +kernel
theorem dX7_hasSailing_34 : decode cX7_hasSailing 34 = .ok (.iconst 0, 1) := by decide +kernel
theorem dX7_hasSailing_35 : decode cX7_hasSailing 35 = .ok (.ireturn, 1) := by decide +kernel
theorem dX7_hasBooking_0 : decode cX7_hasBooking 0 = .ok (.aload_n 0, 1) := by decide +kernel
theorem dX7_hasBooking_1 : decode cX7_hasBooking 1 = .ok (.iload_n 1, 1) := by decide +kernel
theorem dX7_hasBooking_2 : decode cX7_hasBooking 2 = .ok (.iconst 0, 1) := by decide +kernel
theorem dX7_hasBooking_3 : decode cX7_hasBooking 3 = .ok (.aload_n 0, 1) := by decide +kernel
theorem dX7_hasBooking_4 : decode cX7_hasBooking 4 = .ok (.getfield 147, 3) := by decide +kernel
theorem dX7_hasBooking_7 : decode cX7_hasBooking 7 = .ok (.iconst 1, 1) := by decide +kernel
theorem dX7_hasBooking_8 : decode cX7_hasBooking 8 = .ok (.isub, 1) := by decide +kernel
theorem dX7_hasBooking_9 : decode cX7_hasBooking 9 = .ok (.invokestatic 137, 3) := by decide +kernel
theorem dX7_hasBooking_12 : decode cX7_hasBooking 12 = .ok (.ifCond .eq 7, 3) := by decide +kernel
theorem dX7_hasBooking_15 : decode cX7_hasBooking 15 = .ok (.iconst 0, 1) := by decide +kernel
theorem dX7_hasBooking_16 : decode cX7_hasBooking 16 = .ok (.goto 4, 3) := by decide +kernel
theorem dX7_hasBooking_19 : decode cX7_hasBooking 19 = .ok (.iconst 1, 1) := by decide +kernel
theorem dX7_hasBooking_20 : decode cX7_hasBooking 20 = .ok (.putfield 133, 3) := by decide +kernel
theorem dX7_hasBooking_23 : decode cX7_hasBooking 23 = .ok (.aload_n 0, 1) := by decide +kernel
theorem dX7_hasBooking_24 : decode cX7_hasBooking 24 = .ok (.getfield 133, 3) := by decide +kernel
theorem dX7_hasBooking_27 : decode cX7_hasBooking 27 = .ok (.ifCond .ne 7, 3) := by decide +kernel
theorem dX7_hasBooking_30 : decode cX7_hasBooking 30 = .ok (.iconst 1, 1) := by decide +kernel
theorem dX7_hasBooking_31 : decode cX7_hasBooking 31 = .ok (.goto 4, 3) := by decide +kernel
theorem dX7_hasBooking_34 : decode cX7_hasBooking 34 = .ok (.iconst 0, 1) := by decide +kernel
theorem dX7_hasBooking_35 : decode cX7_hasBooking 35 = .ok (.ireturn, 1) := by decide +kernel
theorem dX7_ship_0 : decode cX7_ship 0 = .ok (.aload_n 0, 1) := by decide +kernel
theorem dX7_ship_1 : decode cX7_ship 1 = .ok (.iload_n 1, 1) := by decide +kernel
theorem dX7_ship_2 : decode cX7_ship 2 = .ok (.invokestatic 150, 3) := by decide +kernel
theorem dX7_ship_5 : decode cX7_ship 5 = .ok (.ifCond .ne 7, 3) := by decide +kernel
theorem dX7_ship_8 : decode cX7_ship 8 = .ok (.iconst 1, 1) := by decide +kernel
theorem dX7_ship_9 : decode cX7_ship 9 = .ok (.goto 4, 3) := by decide +kernel
theorem dX7_ship_12 : decode cX7_ship 12 = .ok (.iconst 0, 1) := by decide +kernel
theorem dX7_ship_13 : decode cX7_ship 13 = .ok (.putfield 133, 3) := by decide +kernel
theorem dX7_ship_16 : decode cX7_ship 16 = .ok (.aload_n 0, 1) := by decide +kernel
theorem dX7_ship_17 : decode cX7_ship 17 = .ok (.getfield 133, 3) := by decide +kernel
theorem dX7_ship_20 : decode cX7_ship 20 = .ok (.ifCond .ne 78, 3) := by decide +kernel
theorem dX7_ship_23 : decode cX7_ship 23 = .ok (.aload_n 0, 1) := by decide +kernel
theorem dX7_ship_24 : decode cX7_ship 24 = .ok (.iload_n 2, 1) := by decide +kernel
theorem dX7_ship_25 : decode cX7_ship 25 = .ok (.iconst 1, 1) := by decide +kernel
theorem dX7_ship_26 : decode cX7_ship 26 = .ok (.iconst 4, 1) := by decide +kernel
theorem dX7_ship_27 : decode cX7_ship 27 = .ok (.invokestatic 137, 3) := by decide +kernel
theorem dX7_ship_30 : decode cX7_ship 30 = .ok (.ifCond .eq 48, 3) := by decide +kernel
theorem dX7_ship_33 : decode cX7_ship 33 = .ok (.iload_n 3, 1) := by decide +kernel
theorem dX7_ship_34 : decode cX7_ship 34 = .ok (.bipush 10, 2) := by decide +kernel
theorem dX7_ship_36 : decode cX7_ship 36 = .ok (.bipush 100, 2) := by decide +kernel
theorem dX7_ship_38 : decode cX7_ship 38 = .ok (.invokestatic 137, 3) := by decide +kernel
theorem dX7_ship_41 : decode cX7_ship 41 = .ok (.ifCond .eq 37, 3) := by decide +kernel
theorem dX7_ship_44 : decode cX7_ship 44 = .ok (.iload 4, 2) := by decide +kernel
theorem dX7_ship_46 : decode cX7_ship 46 = .ok (.iconst 1, 1) := by decide +kernel
theorem dX7_ship_47 : decode cX7_ship 47 = .ok (.sipush 1000, 3) := by decide +kernel
theorem dX7_ship_50 : decode cX7_ship 50 = .ok (.invokestatic 137, 3) := by decide +kernel
theorem dX7_ship_53 : decode cX7_ship 53 = .ok (.ifCond .eq 25, 3) := by decide +kernel
theorem dX7_ship_56 : decode cX7_ship 56 = .ok (.iload 5, 2) := by decide +kernel
theorem dX7_ship_58 : decode cX7_ship 58 = .ok (.iconst 1, 1) := by decide +kernel
theorem dX7_ship_59 : decode cX7_ship 59 = .ok (.bipush 9, 2) := by decide +kernel
theorem dX7_ship_61 : decode cX7_ship 61 = .ok (.invokestatic 137, 3) := by decide +kernel
theorem dX7_ship_64 : decode cX7_ship 64 = .ok (.ifCond .eq 14, 3) := by decide +kernel
theorem dX7_ship_67 : decode cX7_ship 67 = .ok (.iload 6, 2) := by decide +kernel
theorem dX7_ship_69 : decode cX7_ship 69 = .ok (.iconst 1, 1) := by decide +kernel
theorem dX7_ship_70 : decode cX7_ship 70 = .ok (.bipush 40, 2) := by decide +kernel
theorem dX7_ship_72 : decode cX7_ship 72 = .ok (.invokestatic 137, 3) := by decide +kernel
theorem dX7_ship_75 : decode cX7_ship 75 = .ok (.ifCond .ne 7, 3) := by decide +kernel
theorem dX7_ship_78 : decode cX7_ship 78 = .ok (.iconst 2, 1) := by decide +kernel
theorem dX7_ship_79 : decode cX7_ship 79 = .ok (.goto 16, 3) := by decide +kernel
theorem dX7_ship_82 : decode cX7_ship 82 = .ok (.aload_n 0, 1) := by decide +kernel
theorem dX7_ship_83 : decode cX7_ship 83 = .ok (.getfield 141, 3) := by decide +kernel
theorem dX7_ship_86 : decode cX7_ship 86 = .ok (.iconst 4, 1) := by decide +kernel
theorem dX7_ship_87 : decode cX7_ship 87 = .ok (.if_icmp .ne 7, 3) := by decide +kernel
theorem dX7_ship_90 : decode cX7_ship 90 = .ok (.iconst 3, 1) := by decide +kernel
theorem dX7_ship_91 : decode cX7_ship 91 = .ok (.goto 4, 3) := by decide +kernel
theorem dX7_ship_94 : decode cX7_ship 94 = .ok (.iconst 0, 1) := by decide +kernel
theorem dX7_ship_95 : decode cX7_ship 95 = .ok (.putfield 133, 3) := by decide +kernel
theorem dX7_ship_98 : decode cX7_ship 98 = .ok (.aload_n 0, 1) := by decide +kernel
theorem dX7_ship_99 : decode cX7_ship 99 = .ok (.getfield 133, 3) := by decide +kernel
theorem dX7_ship_102 : decode cX7_ship 102 = .ok (.ifCond .le 5, 3) := by decide +kernel
theorem dX7_ship_105 : decode cX7_ship 105 = .ok (.iconst 0, 1) := by decide +kernel
theorem dX7_ship_106 : decode cX7_ship 106 = .ok (.ireturn, 1) := by decide +kernel
theorem dX7_ship_107 : decode cX7_ship 107 = .ok (.aload_n 0, 1) := by decide +kernel
theorem dX7_ship_108 : decode cX7_ship 108 = .ok (.getfield 7, 3) := by decide +kernel
theorem dX7_ship_111 : decode cX7_ship 111 = .ok (.aload_n 0, 1) := by decide +kernel
theorem dX7_ship_112 : decode cX7_ship 112 = .ok (.getfield 141, 3) := by decide +kernel
theorem dX7_ship_115 : decode cX7_ship 115 = .ok (.iload_n 1, 1) := by decide +kernel
theorem dX7_ship_116 : decode cX7_ship 116 = .ok (.iastore, 1) := by decide +kernel
theorem dX7_ship_117 : decode cX7_ship 117 = .ok (.aload_n 0, 1) := by decide +kernel
theorem dX7_ship_118 : decode cX7_ship 118 = .ok (.getfield 13, 3) := by decide +kernel
theorem dX7_ship_121 : decode cX7_ship 121 = .ok (.aload_n 0, 1) := by decide +kernel
theorem dX7_ship_122 : decode cX7_ship 122 = .ok (.getfield 141, 3) := by decide +kernel
theorem dX7_ship_125 : decode cX7_ship 125 = .ok (.iload_n 2, 1) := by decide +kernel
theorem dX7_ship_126 : decode cX7_ship 126 = .ok (.iastore, 1) := by decide +kernel
theorem dX7_ship_127 : decode cX7_ship 127 = .ok (.aload_n 0, 1) := by decide +kernel
theorem dX7_ship_128 : decode cX7_ship 128 = .ok (.getfield 16, 3) := by decide +kernel
theorem dX7_ship_131 : decode cX7_ship 131 = .ok (.aload_n 0, 1) := by decide +kernel
theorem dX7_ship_132 : decode cX7_ship 132 = .ok (.getfield 141, 3) := by decide +kernel
theorem dX7_ship_135 : decode cX7_ship 135 = .ok (.iload_n 3, 1) := by decide +kernel
theorem dX7_ship_136 : decode cX7_ship 136 = .ok (.iastore, 1) := by decide +kernel
theorem dX7_ship_137 : decode cX7_ship 137 = .ok (.aload_n 0, 1) := by decide +kernel
theorem dX7_ship_138 : decode cX7_ship 138 = .ok (.getfield 19, 3) := by decide +kernel
theorem dX7_ship_141 : decode cX7_ship 141 = .ok (.aload_n 0, 1) := by decide +kernel
theorem dX7_ship_142 : decode cX7_ship 142 = .ok (.getfield 141, 3) := by decide +kernel
theorem dX7_ship_145 : decode cX7_ship 145 = .ok (.iload 4, 2) := by decide +kernel
theorem dX7_ship_147 : decode cX7_ship 147 = .ok (.iastore, 1) := by decide +kernel
theorem dX7_ship_148 : decode cX7_ship 148 = .ok (.aload_n 0, 1) := by decide +kernel
theorem dX7_ship_149 : decode cX7_ship 149 = .ok (.getfield 22, 3) := by decide +kernel
theorem dX7_ship_152 : decode cX7_ship 152 = .ok (.aload_n 0, 1) := by decide +kernel
theorem dX7_ship_153 : decode cX7_ship 153 = .ok (.getfield 141, 3) := by decide +kernel
theorem dX7_ship_156 : decode cX7_ship 156 = .ok (.iload 5, 2) := by decide +kernel
theorem dX7_ship_158 : decode cX7_ship 158 = .ok (.iastore, 1) := by decide +kernel
theorem dX7_ship_159 : decode cX7_ship 159 = .ok (.aload_n 0, 1) := by decide +kernel
theorem dX7_ship_160 : decode cX7_ship 160 = .ok (.getfield 25, 3) := by decide +kernel
theorem dX7_ship_163 : decode cX7_ship 163 = .ok (.aload_n 0, 1) := by decide +kernel
theorem dX7_ship_164 : decode cX7_ship 164 = .ok (.getfield 141, 3) := by decide +kernel
theorem dX7_ship_167 : decode cX7_ship 167 = .ok (.iload 6, 2) := by decide +kernel
theorem dX7_ship_169 : decode cX7_ship 169 = .ok (.iastore, 1) := by decide +kernel
theorem dX7_ship_170 : decode cX7_ship 170 = .ok (.aload_n 0, 1) := by decide +kernel
theorem dX7_ship_171 : decode cX7_ship 171 = .ok (.dup, 1) := by decide +kernel
theorem dX7_ship_172 : decode cX7_ship 172 = .ok (.getfield 141, 3) := by decide +kernel
theorem dX7_ship_175 : decode cX7_ship 175 = .ok (.iconst 1, 1) := by decide +kernel
theorem dX7_ship_176 : decode cX7_ship 176 = .ok (.iadd, 1) := by decide +kernel
theorem dX7_ship_177 : decode cX7_ship 177 = .ok (.putfield 141, 3) := by decide +kernel
theorem dX7_ship_180 : decode cX7_ship 180 = .ok (.aload_n 0, 1) := by decide +kernel
theorem dX7_ship_181 : decode cX7_ship 181 = .ok (.getfield 141, 3) := by decide +kernel
theorem dX7_ship_184 : decode cX7_ship 184 = .ok (.iconst 1, 1) := by decide +kernel
theorem dX7_ship_185 : decode cX7_ship 185 = .ok (.isub, 1) := by decide +kernel
theorem dX7_ship_186 : decode cX7_ship 186 = .ok (.ireturn, 1) := by decide +kernel
theorem dX7_fill_0 : decode cX7_fill 0 = .ok (.aload_n 0, 1) := by decide +kernel
theorem dX7_fill_1 : decode cX7_fill 1 = .ok (.aload_n 0, 1) := by decide +kernel
theorem dX7_fill_2 : decode cX7_fill 2 = .ok (.iload_n 1, 1) := by decide +kernel
theorem dX7_fill_3 : decode cX7_fill 3 = .ok (.invokevirtual 154, 3) := by decide +kernel
theorem dX7_fill_6 : decode cX7_fill 6 = .ok (.ifCond .ne 7, 3) := by decide +kernel
theorem dX7_fill_9 : decode cX7_fill 9 = .ok (.iconst 1, 1) := by decide +kernel
theorem dX7_fill_10 : decode cX7_fill 10 = .ok (.goto 37, 3) := by decide +kernel
theorem dX7_fill_13 : decode cX7_fill 13 = .ok (.iload_n 2, 1) := by decide +kernel
theorem dX7_fill_14 : decode cX7_fill 14 = .ok (.iconst 1, 1) := by decide +kernel
theorem dX7_fill_15 : decode cX7_fill 15 = .ok (.sipush 1000, 3) := by decide +kernel
theorem dX7_fill_18 : decode cX7_fill 18 = .ok (.invokestatic 137, 3) := by decide +kernel
theorem dX7_fill_21 : decode cX7_fill 21 = .ok (.ifCond .ne 7, 3) := by decide +kernel
theorem dX7_fill_24 : decode cX7_fill 24 = .ok (.iconst 2, 1) := by decide +kernel
theorem dX7_fill_25 : decode cX7_fill 25 = .ok (.goto 22, 3) := by decide +kernel
theorem dX7_fill_28 : decode cX7_fill 28 = .ok (.aload_n 0, 1) := by decide +kernel
theorem dX7_fill_29 : decode cX7_fill 29 = .ok (.getfield 28, 3) := by decide +kernel
theorem dX7_fill_32 : decode cX7_fill 32 = .ok (.iload_n 1, 1) := by decide +kernel
theorem dX7_fill_33 : decode cX7_fill 33 = .ok (.iaload, 1) := by decide +kernel
theorem dX7_fill_34 : decode cX7_fill 34 = .ok (.iload_n 2, 1) := by decide +kernel
theorem dX7_fill_35 : decode cX7_fill 35 = .ok (.iadd, 1) := by decide +kernel
theorem dX7_fill_36 : decode cX7_fill 36 = .ok (.sipush 1000, 3) := by decide +kernel
theorem dX7_fill_39 : decode cX7_fill 39 = .ok (.if_icmp .le 7, 3) := by decide +kernel
theorem dX7_fill_42 : decode cX7_fill 42 = .ok (.iconst 3, 1) := by decide +kernel
theorem dX7_fill_43 : decode cX7_fill 43 = .ok (.goto 4, 3) := by decide +kernel
theorem dX7_fill_46 : decode cX7_fill 46 = .ok (.iconst 0, 1) := by decide +kernel
theorem dX7_fill_47 : decode cX7_fill 47 = .ok (.putfield 133, 3) := by decide +kernel
theorem dX7_fill_50 : decode cX7_fill 50 = .ok (.aload_n 0, 1) := by decide +kernel
theorem dX7_fill_51 : decode cX7_fill 51 = .ok (.getfield 133, 3) := by decide +kernel
theorem dX7_fill_54 : decode cX7_fill 54 = .ok (.ifCond .le 5, 3) := by decide +kernel
theorem dX7_fill_57 : decode cX7_fill 57 = .ok (.iconst 0, 1) := by decide +kernel
theorem dX7_fill_58 : decode cX7_fill 58 = .ok (.ireturn, 1) := by decide +kernel
theorem dX7_fill_59 : decode cX7_fill 59 = .ok (.aload_n 0, 1) := by decide +kernel
theorem dX7_fill_60 : decode cX7_fill 60 = .ok (.getfield 28, 3) := by decide +kernel
theorem dX7_fill_63 : decode cX7_fill 63 = .ok (.iload_n 1, 1) := by decide +kernel
theorem dX7_fill_64 : decode cX7_fill 64 = .ok (.dup2, 1) := by decide +kernel
theorem dX7_fill_65 : decode cX7_fill 65 = .ok (.iaload, 1) := by decide +kernel
theorem dX7_fill_66 : decode cX7_fill 66 = .ok (.iload_n 2, 1) := by decide +kernel
theorem dX7_fill_67 : decode cX7_fill 67 = .ok (.iadd, 1) := by decide +kernel
theorem dX7_fill_68 : decode cX7_fill 68 = .ok (.iastore, 1) := by decide +kernel
theorem dX7_fill_69 : decode cX7_fill 69 = .ok (.aload_n 0, 1) := by decide +kernel
theorem dX7_fill_70 : decode cX7_fill 70 = .ok (.dup, 1) := by decide +kernel
theorem dX7_fill_71 : decode cX7_fill 71 = .ok (.getfield 157, 3) := by decide +kernel
theorem dX7_fill_74 : decode cX7_fill 74 = .ok (.ldc2_w 161, 3) := by decide +kernel
theorem dX7_fill_77 : decode cX7_fill 77 = .ok (.iload_n 2, 1) := by decide +kernel
theorem dX7_fill_78 : decode cX7_fill 78 = .ok (.i2l, 1) := by decide +kernel
theorem dX7_fill_79 : decode cX7_fill 79 = .ok (.lmul, 1) := by decide +kernel
theorem dX7_fill_80 : decode cX7_fill 80 = .ok (.lsub, 1) := by decide +kernel
theorem dX7_fill_81 : decode cX7_fill 81 = .ok (.putfield 157, 3) := by decide +kernel
theorem dX7_fill_84 : decode cX7_fill 84 = .ok (.aload_n 0, 1) := by decide +kernel
theorem dX7_fill_85 : decode cX7_fill 85 = .ok (.getfield 28, 3) := by decide +kernel
theorem dX7_fill_88 : decode cX7_fill 88 = .ok (.iload_n 1, 1) := by decide +kernel
theorem dX7_fill_89 : decode cX7_fill 89 = .ok (.iaload, 1) := by decide +kernel
theorem dX7_fill_90 : decode cX7_fill 90 = .ok (.ireturn, 1) := by decide +kernel
theorem dX7_crew_0 : decode cX7_crew 0 = .ok (.aload_n 0, 1) := by decide +kernel
theorem dX7_crew_1 : decode cX7_crew 1 = .ok (.aload_n 0, 1) := by decide +kernel
theorem dX7_crew_2 : decode cX7_crew 2 = .ok (.iload_n 1, 1) := by decide +kernel
theorem dX7_crew_3 : decode cX7_crew 3 = .ok (.invokevirtual 154, 3) := by decide +kernel
theorem dX7_crew_6 : decode cX7_crew 6 = .ok (.ifCond .ne 7, 3) := by decide +kernel
theorem dX7_crew_9 : decode cX7_crew 9 = .ok (.iconst 1, 1) := by decide +kernel
theorem dX7_crew_10 : decode cX7_crew 10 = .ok (.goto 43, 3) := by decide +kernel
theorem dX7_crew_13 : decode cX7_crew 13 = .ok (.iload_n 2, 1) := by decide +kernel
theorem dX7_crew_14 : decode cX7_crew 14 = .ok (.iconst 0, 1) := by decide +kernel
theorem dX7_crew_15 : decode cX7_crew 15 = .ok (.sipush 500, 3) := by decide +kernel
theorem dX7_crew_18 : decode cX7_crew 18 = .ok (.invokestatic 137, 3) := by decide +kernel
theorem dX7_crew_21 : decode cX7_crew 21 = .ok (.ifCond .eq 14, 3) := by decide +kernel
theorem dX7_crew_24 : decode cX7_crew 24 = .ok (.iload_n 3, 1) := by decide +kernel
theorem dX7_crew_25 : decode cX7_crew 25 = .ok (.iload_n 2, 1) := by decide +kernel
theorem dX7_crew_26 : decode cX7_crew 26 = .ok (.sipush 500, 3) := by decide +kernel
theorem dX7_crew_29 : decode cX7_crew 29 = .ok (.invokestatic 137, 3) := by decide +kernel
theorem dX7_crew_32 : decode cX7_crew 32 = .ok (.ifCond .ne 7, 3) := by decide +kernel
theorem dX7_crew_35 : decode cX7_crew 35 = .ok (.iconst 2, 1) := by decide +kernel
theorem dX7_crew_36 : decode cX7_crew 36 = .ok (.goto 17, 3) := by decide +kernel
theorem dX7_crew_39 : decode cX7_crew 39 = .ok (.aload_n 0, 1) := by decide +kernel
theorem dX7_crew_40 : decode cX7_crew 40 = .ok (.getfield 163, 3) := by decide +kernel
theorem dX7_crew_43 : decode cX7_crew 43 = .ok (.bipush 6, 2) := by decide +kernel
theorem dX7_crew_45 : decode cX7_crew 45 = .ok (.if_icmp .ne 7, 3) := by decide +kernel
theorem dX7_crew_48 : decode cX7_crew 48 = .ok (.iconst 3, 1) := by decide +kernel
theorem dX7_crew_49 : decode cX7_crew 49 = .ok (.goto 4, 3) := by decide +kernel
theorem dX7_crew_52 : decode cX7_crew 52 = .ok (.iconst 0, 1) := by decide +kernel
theorem dX7_crew_53 : decode cX7_crew 53 = .ok (.putfield 133, 3) := by decide +kernel
theorem dX7_crew_56 : decode cX7_crew 56 = .ok (.aload_n 0, 1) := by decide +kernel
theorem dX7_crew_57 : decode cX7_crew 57 = .ok (.getfield 133, 3) := by decide +kernel
theorem dX7_crew_60 : decode cX7_crew 60 = .ok (.ifCond .le 5, 3) := by decide +kernel
theorem dX7_crew_63 : decode cX7_crew 63 = .ok (.iconst 0, 1) := by decide +kernel
theorem dX7_crew_64 : decode cX7_crew 64 = .ok (.ireturn, 1) := by decide +kernel
theorem dX7_crew_65 : decode cX7_crew 65 = .ok (.aload_n 0, 1) := by decide +kernel
theorem dX7_crew_66 : decode cX7_crew 66 = .ok (.getfield 31, 3) := by decide +kernel
theorem dX7_crew_69 : decode cX7_crew 69 = .ok (.aload_n 0, 1) := by decide +kernel
theorem dX7_crew_70 : decode cX7_crew 70 = .ok (.getfield 163, 3) := by decide +kernel
theorem dX7_crew_73 : decode cX7_crew 73 = .ok (.iload_n 1, 1) := by decide +kernel
theorem dX7_crew_74 : decode cX7_crew 74 = .ok (.iastore, 1) := by decide +kernel
theorem dX7_crew_75 : decode cX7_crew 75 = .ok (.aload_n 0, 1) := by decide +kernel
theorem dX7_crew_76 : decode cX7_crew 76 = .ok (.getfield 34, 3) := by decide +kernel
theorem dX7_crew_79 : decode cX7_crew 79 = .ok (.aload_n 0, 1) := by decide +kernel
theorem dX7_crew_80 : decode cX7_crew 80 = .ok (.getfield 163, 3) := by decide +kernel
theorem dX7_crew_83 : decode cX7_crew 83 = .ok (.iload_n 2, 1) := by decide +kernel
theorem dX7_crew_84 : decode cX7_crew 84 = .ok (.iastore, 1) := by decide +kernel
theorem dX7_crew_85 : decode cX7_crew 85 = .ok (.aload_n 0, 1) := by decide +kernel
theorem dX7_crew_86 : decode cX7_crew 86 = .ok (.getfield 37, 3) := by decide +kernel
theorem dX7_crew_89 : decode cX7_crew 89 = .ok (.aload_n 0, 1) := by decide +kernel
theorem dX7_crew_90 : decode cX7_crew 90 = .ok (.getfield 163, 3) := by decide +kernel
theorem dX7_crew_93 : decode cX7_crew 93 = .ok (.iload_n 3, 1) := by decide +kernel
theorem dX7_crew_94 : decode cX7_crew 94 = .ok (.iastore, 1) := by decide +kernel
theorem dX7_crew_95 : decode cX7_crew 95 = .ok (.aload_n 0, 1) := by decide +kernel
theorem dX7_crew_96 : decode cX7_crew 96 = .ok (.dup, 1) := by decide +kernel
theorem dX7_crew_97 : decode cX7_crew 97 = .ok (.getfield 163, 3) := by decide +kernel
theorem dX7_crew_100 : decode cX7_crew 100 = .ok (.iconst 1, 1) := by decide +kernel
theorem dX7_crew_101 : decode cX7_crew 101 = .ok (.iadd, 1) := by decide +kernel
theorem dX7_crew_102 : decode cX7_crew 102 = .ok (.putfield 163, 3) := by decide +kernel
theorem dX7_crew_105 : decode cX7_crew 105 = .ok (.aload_n 0, 1) := by decide +kernel
theorem dX7_crew_106 : decode cX7_crew 106 = .ok (.getfield 163, 3) := by decide +kernel
theorem dX7_crew_109 : decode cX7_crew 109 = .ok (.iconst 1, 1) := by decide +kernel
theorem dX7_crew_110 : decode cX7_crew 110 = .ok (.isub, 1) := by decide +kernel
theorem dX7_crew_111 : decode cX7_crew 111 = .ok (.ireturn, 1) := by decide +kernel
theorem dX7_hours_0 : decode cX7_hours 0 = .ok (.aload_n 0, 1) := by decide +kernel
theorem dX7_hours_1 : decode cX7_hours 1 = .ok (.iload_n 1, 1) := by decide +kernel
theorem dX7_hours_2 : decode cX7_hours 2 = .ok (.iconst 0, 1) := by decide +kernel
theorem dX7_hours_3 : decode cX7_hours 3 = .ok (.aload_n 0, 1) := by decide +kernel
theorem dX7_hours_4 : decode cX7_hours 4 = .ok (.getfield 163, 3) := by decide +kernel
theorem dX7_hours_7 : decode cX7_hours 7 = .ok (.iconst 1, 1) := by decide +kernel
theorem dX7_hours_8 : decode cX7_hours 8 = .ok (.isub, 1) := by decide +kernel
theorem dX7_hours_9 : decode cX7_hours 9 = .ok (.invokestatic 137, 3) := by decide +kernel
theorem dX7_hours_12 : decode cX7_hours 12 = .ok (.ifCond .ne 7, 3) := by decide +kernel
theorem dX7_hours_15 : decode cX7_hours 15 = .ok (.iconst 1, 1) := by decide +kernel
theorem dX7_hours_16 : decode cX7_hours 16 = .ok (.goto 19, 3) := by decide +kernel
theorem dX7_hours_19 : decode cX7_hours 19 = .ok (.iload_n 2, 1) := by decide +kernel
theorem dX7_hours_20 : decode cX7_hours 20 = .ok (.iconst 0, 1) := by decide +kernel
theorem dX7_hours_21 : decode cX7_hours 21 = .ok (.sipush 500, 3) := by decide +kernel
theorem dX7_hours_24 : decode cX7_hours 24 = .ok (.invokestatic 137, 3) := by decide +kernel
theorem dX7_hours_27 : decode cX7_hours 27 = .ok (.ifCond .ne 7, 3) := by decide +kernel
theorem dX7_hours_30 : decode cX7_hours 30 = .ok (.iconst 2, 1) := by decide +kernel
theorem dX7_hours_31 : decode cX7_hours 31 = .ok (.goto 4, 3) := by decide +kernel
theorem dX7_hours_34 : decode cX7_hours 34 = .ok (.iconst 0, 1) := by decide +kernel
theorem dX7_hours_35 : decode cX7_hours 35 = .ok (.putfield 133, 3) := by decide +kernel
theorem dX7_hours_38 : decode cX7_hours 38 = .ok (.aload_n 0, 1) := by decide +kernel
theorem dX7_hours_39 : decode cX7_hours 39 = .ok (.getfield 133, 3) := by decide +kernel
theorem dX7_hours_42 : decode cX7_hours 42 = .ok (.ifCond .ne 18, 3) := by decide +kernel
theorem dX7_hours_45 : decode cX7_hours 45 = .ok (.aload_n 0, 1) := by decide +kernel
theorem dX7_hours_46 : decode cX7_hours 46 = .ok (.getfield 40, 3) := by decide +kernel
theorem dX7_hours_49 : decode cX7_hours 49 = .ok (.sipush 501, 3) := by decide +kernel
theorem dX7_hours_52 : decode cX7_hours 52 = .ok (.iload_n 1, 1) := by decide +kernel
theorem dX7_hours_53 : decode cX7_hours 53 = .ok (.imul, 1) := by decide +kernel
theorem dX7_hours_54 : decode cX7_hours 54 = .ok (.iload_n 2, 1) := by decide +kernel
theorem dX7_hours_55 : decode cX7_hours 55 = .ok (.iadd, 1) := by decide +kernel
theorem dX7_hours_56 : decode cX7_hours 56 = .ok (.iaload, 1) := by decide +kernel
theorem dX7_hours_57 : decode cX7_hours 57 = .ok (.goto 4, 3) := by decide +kernel
theorem dX7_hours_60 : decode cX7_hours 60 = .ok (.iconst 0, 1) := by decide +kernel
theorem dX7_hours_61 : decode cX7_hours 61 = .ok (.ireturn, 1) := by decide +kernel
theorem dX7_depthOf_0 : decode cX7_depthOf 0 = .ok (.iload_n 1, 1) := by decide +kernel
theorem dX7_depthOf_1 : decode cX7_depthOf 1 = .ok (.iconst 2, 1) := by decide +kernel
theorem dX7_depthOf_2 : decode cX7_depthOf 2 = .ok (.iload_n 0, 1) := by decide +kernel
theorem dX7_depthOf_3 : decode cX7_depthOf 3 = .ok (.imul, 1) := by decide +kernel
theorem dX7_depthOf_4 : decode cX7_depthOf 4 = .ok (.iadd, 1) := by decide +kernel
theorem dX7_depthOf_5 : decode cX7_depthOf 5 = .ok (.bipush 12, 2) := by decide +kernel
theorem dX7_depthOf_7 : decode cX7_depthOf 7 = .ok (.irem, 1) := by decide +kernel
theorem dX7_depthOf_8 : decode cX7_depthOf 8 = .ok (.bipush 6, 2) := by decide +kernel
theorem dX7_depthOf_10 : decode cX7_depthOf 10 = .ok (.isub, 1) := by decide +kernel
theorem dX7_depthOf_11 : decode cX7_depthOf 11 = .ok (.istore_n 2, 1) := by decide +kernel
theorem dX7_depthOf_12 : decode cX7_depthOf 12 = .ok (.iconst 3, 1) := by decide +kernel
theorem dX7_depthOf_13 : decode cX7_depthOf 13 = .ok (.iload_n 2, 1) := by decide +kernel
theorem dX7_depthOf_14 : decode cX7_depthOf 14 = .ok (.ifCond .ge 8, 3) := by decide +kernel
theorem dX7_depthOf_17 : decode cX7_depthOf 17 = .ok (.iload_n 2, 1) := by decide +kernel
theorem dX7_depthOf_18 : decode cX7_depthOf 18 = .ok (.ineg, 1) := by decide +kernel
theorem dX7_depthOf_19 : decode cX7_depthOf 19 = .ok (.goto 4, 3) := by decide +kernel
theorem dX7_depthOf_22 : decode cX7_depthOf 22 = .ok (.iload_n 2, 1) := by decide +kernel
theorem dX7_depthOf_23 : decode cX7_depthOf 23 = .ok (.iadd, 1) := by decide +kernel
theorem dX7_depthOf_24 : decode cX7_depthOf 24 = .ok (.ireturn, 1) := by decide +kernel
theorem dX7_depth_0 : decode cX7_depth 0 = .ok (.aload_n 0, 1) := by decide +kernel
theorem dX7_depth_1 : decode cX7_depth 1 = .ok (.iload_n 1, 1) := by decide +kernel
theorem dX7_depth_2 : decode cX7_depth 2 = .ok (.invokestatic 150, 3) := by decide +kernel
theorem dX7_depth_5 : decode cX7_depth 5 = .ok (.ifCond .ne 7, 3) := by decide +kernel
theorem dX7_depth_8 : decode cX7_depth 8 = .ok (.iconst 1, 1) := by decide +kernel
theorem dX7_depth_9 : decode cX7_depth 9 = .ok (.goto 19, 3) := by decide +kernel
theorem dX7_depth_12 : decode cX7_depth 12 = .ok (.iload_n 2, 1) := by decide +kernel
theorem dX7_depth_13 : decode cX7_depth 13 = .ok (.iconst 0, 1) := by decide +kernel
theorem dX7_depth_14 : decode cX7_depth 14 = .ok (.sipush 10000, 3) := by decide +kernel
theorem dX7_depth_17 : decode cX7_depth 17 = .ok (.invokestatic 137, 3) := by decide +kernel
theorem dX7_depth_20 : decode cX7_depth 20 = .ok (.ifCond .ne 7, 3) := by decide +kernel
theorem dX7_depth_23 : decode cX7_depth 23 = .ok (.iconst 2, 1) := by decide +kernel
theorem dX7_depth_24 : decode cX7_depth 24 = .ok (.goto 4, 3) := by decide +kernel
theorem dX7_depth_27 : decode cX7_depth 27 = .ok (.iconst 0, 1) := by decide +kernel
theorem dX7_depth_28 : decode cX7_depth 28 = .ok (.putfield 133, 3) := by decide +kernel
theorem dX7_depth_31 : decode cX7_depth 31 = .ok (.aload_n 0, 1) := by decide +kernel
theorem dX7_depth_32 : decode cX7_depth 32 = .ok (.getfield 133, 3) := by decide +kernel
theorem dX7_depth_35 : decode cX7_depth 35 = .ok (.ifCond .ne 11, 3) := by decide +kernel
theorem dX7_depth_38 : decode cX7_depth 38 = .ok (.iload_n 1, 1) := by decide +kernel
theorem dX7_depth_39 : decode cX7_depth 39 = .ok (.iload_n 2, 1) := by decide +kernel
theorem dX7_depth_40 : decode cX7_depth 40 = .ok (.invokestatic 166, 3) := by decide +kernel
theorem dX7_depth_43 : decode cX7_depth 43 = .ok (.goto 4, 3) := by decide +kernel
theorem dX7_depth_46 : decode cX7_depth 46 = .ok (.iconst 0, 1) := by decide +kernel
theorem dX7_depth_47 : decode cX7_depth 47 = .ok (.ireturn, 1) := by decide +kernel
theorem dX7_hinder_0 : decode cX7_hinder 0 = .ok (.aload_n 0, 1) := by decide +kernel
theorem dX7_hinder_1 : decode cX7_hinder 1 = .ok (.iload_n 1, 1) := by decide +kernel
theorem dX7_hinder_2 : decode cX7_hinder 2 = .ok (.iconst 2, 1) := by decide +kernel
theorem dX7_hinder_3 : decode cX7_hinder 3 = .ok (.if_icmp .ne 15, 3) := by decide +kernel
theorem dX7_hinder_6 : decode cX7_hinder 6 = .ok (.aload_n 0, 1) := by decide +kernel
theorem dX7_hinder_7 : decode cX7_hinder 7 = .ok (.iload_n 2, 1) := by decide +kernel
theorem dX7_hinder_8 : decode cX7_hinder 8 = .ok (.invokevirtual 154, 3) := by decide +kernel
theorem dX7_hinder_11 : decode cX7_hinder 11 = .ok (.ifCond .ne 7, 3) := by decide +kernel
theorem dX7_hinder_14 : decode cX7_hinder 14 = .ok (.iconst 1, 1) := by decide +kernel
theorem dX7_hinder_15 : decode cX7_hinder 15 = .ok (.goto 40, 3) := by decide +kernel
theorem dX7_hinder_18 : decode cX7_hinder 18 = .ok (.iload_n 1, 1) := by decide +kernel
theorem dX7_hinder_19 : decode cX7_hinder 19 = .ok (.iconst 0, 1) := by decide +kernel
theorem dX7_hinder_20 : decode cX7_hinder 20 = .ok (.iconst 2, 1) := by decide +kernel
theorem dX7_hinder_21 : decode cX7_hinder 21 = .ok (.invokestatic 137, 3) := by decide +kernel
theorem dX7_hinder_24 : decode cX7_hinder 24 = .ok (.ifCond .eq 26, 3) := by decide +kernel
theorem dX7_hinder_27 : decode cX7_hinder 27 = .ok (.iload_n 3, 1) := by decide +kernel
theorem dX7_hinder_28 : decode cX7_hinder 28 = .ok (.iconst 0, 1) := by decide +kernel
theorem dX7_hinder_29 : decode cX7_hinder 29 = .ok (.sipush 10000, 3) := by decide +kernel
theorem dX7_hinder_32 : decode cX7_hinder 32 = .ok (.invokestatic 137, 3) := by decide +kernel
theorem dX7_hinder_35 : decode cX7_hinder 35 = .ok (.ifCond .eq 15, 3) := by decide +kernel
theorem dX7_hinder_38 : decode cX7_hinder 38 = .ok (.iload 4, 2) := by decide +kernel
theorem dX7_hinder_40 : decode cX7_hinder 40 = .ok (.iload_n 3, 1) := by decide +kernel
theorem dX7_hinder_41 : decode cX7_hinder 41 = .ok (.sipush 10000, 3) := by decide +kernel
theorem dX7_hinder_44 : decode cX7_hinder 44 = .ok (.invokestatic 137, 3) := by decide +kernel
theorem dX7_hinder_47 : decode cX7_hinder 47 = .ok (.ifCond .ne 7, 3) := by decide +kernel
theorem dX7_hinder_50 : decode cX7_hinder 50 = .ok (.iconst 2, 1) := by decide +kernel
theorem dX7_hinder_51 : decode cX7_hinder 51 = .ok (.goto 4, 3) := by decide +kernel
theorem dX7_hinder_54 : decode cX7_hinder 54 = .ok (.iconst 0, 1) := by decide +kernel
theorem dX7_hinder_55 : decode cX7_hinder 55 = .ok (.putfield 133, 3) := by decide +kernel
theorem dX7_hinder_58 : decode cX7_hinder 58 = .ok (.aload_n 0, 1) := by decide +kernel
theorem dX7_hinder_59 : decode cX7_hinder 59 = .ok (.getfield 133, 3) := by decide +kernel
theorem dX7_hinder_62 : decode cX7_hinder 62 = .ok (.ifCond .ne 36, 3) := by decide +kernel
theorem dX7_hinder_65 : decode cX7_hinder 65 = .ok (.iload_n 1, 1) := by decide +kernel
theorem dX7_hinder_66 : decode cX7_hinder 66 = .ok (.iconst 2, 1) := by decide +kernel
theorem dX7_hinder_67 : decode cX7_hinder 67 = .ok (.if_icmp .ne 9, 3) := by decide +kernel
theorem dX7_hinder_70 : decode cX7_hinder 70 = .ok (.iconst 2, 1) := by decide +kernel
theorem dX7_hinder_71 : decode cX7_hinder 71 = .ok (.iload_n 2, 1) := by decide +kernel
theorem dX7_hinder_72 : decode cX7_hinder 72 = .ok (.iadd, 1) := by decide +kernel
theorem dX7_hinder_73 : decode cX7_hinder 73 = .ok (.goto 4, 3) := by decide +kernel
theorem dX7_hinder_76 : decode cX7_hinder 76 = .ok (.iload_n 1, 1) := by decide +kernel
theorem dX7_hinder_77 : decode cX7_hinder 77 = .ok (.istore 5, 2) := by decide +kernel
theorem dX7_hinder_79 : decode cX7_hinder 79 = .ok (.aload_n 0, 1) := by decide +kernel
theorem dX7_hinder_80 : decode cX7_hinder 80 = .ok (.getfield 43, 3) := by decide +kernel
theorem dX7_hinder_83 : decode cX7_hinder 83 = .ok (.iload 5, 2) := by decide +kernel
theorem dX7_hinder_85 : decode cX7_hinder 85 = .ok (.iload_n 3, 1) := by decide +kernel
theorem dX7_hinder_86 : decode cX7_hinder 86 = .ok (.iconst 1, 1) := by decide +kernel
theorem dX7_hinder_87 : decode cX7_hinder 87 = .ok (.iadd, 1) := by decide +kernel
theorem dX7_hinder_88 : decode cX7_hinder 88 = .ok (.iastore, 1) := by decide +kernel
theorem dX7_hinder_89 : decode cX7_hinder 89 = .ok (.aload_n 0, 1) := by decide +kernel
theorem dX7_hinder_90 : decode cX7_hinder 90 = .ok (.getfield 46, 3) := by decide +kernel
theorem dX7_hinder_93 : decode cX7_hinder 93 = .ok (.iload 5, 2) := by decide +kernel
theorem dX7_hinder_95 : decode cX7_hinder 95 = .ok (.iload 4, 2) := by decide +kernel
theorem dX7_hinder_97 : decode cX7_hinder 97 = .ok (.iastore, 1) := by decide +kernel
theorem dX7_hinder_98 : decode cX7_hinder 98 = .ok (.return_, 1) := by decide +kernel
theorem dX7_hinders_0 : decode cX7_hinders 0 = .ok (.aload_n 0, 1) := by decide +kernel
theorem dX7_hinders_1 : decode cX7_hinders 1 = .ok (.getfield 43, 3) := by decide +kernel
theorem dX7_hinders_4 : decode cX7_hinders 4 = .ok (.iload_n 1, 1) := by decide +kernel
theorem dX7_hinders_5 : decode cX7_hinders 5 = .ok (.iaload, 1) := by decide +kernel
theorem dX7_hinders_6 : decode cX7_hinders 6 = .ok (.ifCond .le 28, 3) := by decide +kernel
theorem dX7_hinders_9 : decode cX7_hinders 9 = .ok (.iload_n 2, 1) := by decide +kernel
theorem dX7_hinders_10 : decode cX7_hinders 10 = .ok (.aload_n 0, 1) := by decide +kernel
theorem dX7_hinders_11 : decode cX7_hinders 11 = .ok (.getfield 43, 3) := by decide +kernel
theorem dX7_hinders_14 : decode cX7_hinders 14 = .ok (.iload_n 1, 1) := by decide +kernel
theorem dX7_hinders_15 : decode cX7_hinders 15 = .ok (.iaload, 1) := by decide +kernel
theorem dX7_hinders_16 : decode cX7_hinders 16 = .ok (.iconst 1, 1) := by decide +kernel
theorem dX7_hinders_17 : decode cX7_hinders 17 = .ok (.isub, 1) := by decide +kernel
theorem dX7_hinders_18 : decode cX7_hinders 18 = .ok (.aload_n 0, 1) := by decide +kernel
theorem dX7_hinders_19 : decode cX7_hinders 19 = .ok (.getfield 46, 3) := by decide +kernel
theorem dX7_hinders_22 : decode cX7_hinders 22 = .ok (.iload_n 1, 1) := by decide +kernel
theorem dX7_hinders_23 : decode cX7_hinders 23 = .ok (.iaload, 1) := by decide +kernel
theorem dX7_hinders_24 : decode cX7_hinders 24 = .ok (.invokestatic 137, 3) := by decide +kernel
theorem dX7_hinders_27 : decode cX7_hinders 27 = .ok (.ifCond .eq 7, 3) := by decide +kernel
theorem dX7_hinders_30 : decode cX7_hinders 30 = .ok (.iconst 1, 1) := by decide +kernel
theorem dX7_hinders_31 : decode cX7_hinders 31 = .ok (.goto 4, 3) := by decide +kernel
theorem dX7_hinders_34 : decode cX7_hinders 34 = .ok (.iconst 0, 1) := by decide +kernel
theorem dX7_hinders_35 : decode cX7_hinders 35 = .ok (.ireturn, 1) := by decide +kernel
theorem dX7_bus_0 : decode cX7_bus 0 = .ok (.aload_n 0, 1) := by decide +kernel
theorem dX7_bus_1 : decode cX7_bus 1 = .ok (.iload_n 1, 1) := by decide +kernel
theorem dX7_bus_2 : decode cX7_bus 2 = .ok (.invokestatic 150, 3) := by decide +kernel
theorem dX7_bus_5 : decode cX7_bus 5 = .ok (.ifCond .ne 7, 3) := by decide +kernel
theorem dX7_bus_8 : decode cX7_bus 8 = .ok (.iconst 1, 1) := by decide +kernel
theorem dX7_bus_9 : decode cX7_bus 9 = .ok (.goto 29, 3) := by decide +kernel
theorem dX7_bus_12 : decode cX7_bus 12 = .ok (.iload_n 2, 1) := by decide +kernel
theorem dX7_bus_13 : decode cX7_bus 13 = .ok (.iconst 1, 1) := by decide +kernel
theorem dX7_bus_14 : decode cX7_bus 14 = .ok (.bipush 12, 2) := by decide +kernel
theorem dX7_bus_16 : decode cX7_bus 16 = .ok (.invokestatic 137, 3) := by decide +kernel
theorem dX7_bus_19 : decode cX7_bus 19 = .ok (.ifCond .eq 14, 3) := by decide +kernel
theorem dX7_bus_22 : decode cX7_bus 22 = .ok (.iload_n 3, 1) := by decide +kernel
theorem dX7_bus_23 : decode cX7_bus 23 = .ok (.iconst 0, 1) := by decide +kernel
theorem dX7_bus_24 : decode cX7_bus 24 = .ok (.iload_n 2, 1) := by decide +kernel
theorem dX7_bus_25 : decode cX7_bus 25 = .ok (.iconst 1, 1) := by decide +kernel
theorem dX7_bus_26 : decode cX7_bus 26 = .ok (.isub, 1) := by decide +kernel
theorem dX7_bus_27 : decode cX7_bus 27 = .ok (.invokestatic 137, 3) := by decide +kernel
theorem dX7_bus_30 : decode cX7_bus 30 = .ok (.ifCond .ne 7, 3) := by decide +kernel
theorem dX7_bus_33 : decode cX7_bus 33 = .ok (.iconst 2, 1) := by decide +kernel
theorem dX7_bus_34 : decode cX7_bus 34 = .ok (.goto 4, 3) := by decide +kernel
theorem dX7_bus_37 : decode cX7_bus 37 = .ok (.iconst 0, 1) := by decide +kernel
theorem dX7_bus_38 : decode cX7_bus 38 = .ok (.putfield 133, 3) := by decide +kernel
theorem dX7_bus_41 : decode cX7_bus 41 = .ok (.aload_n 0, 1) := by decide +kernel
theorem dX7_bus_42 : decode cX7_bus 42 = .ok (.getfield 133, 3) := by decide +kernel
theorem dX7_bus_45 : decode cX7_bus 45 = .ok (.ifCond .ne 17, 3) := by decide +kernel
theorem dX7_bus_48 : decode cX7_bus 48 = .ok (.aload_n 0, 1) := by decide +kernel
theorem dX7_bus_49 : decode cX7_bus 49 = .ok (.getfield 49, 3) := by decide +kernel
theorem dX7_bus_52 : decode cX7_bus 52 = .ok (.iload_n 1, 1) := by decide +kernel
theorem dX7_bus_53 : decode cX7_bus 53 = .ok (.iload_n 2, 1) := by decide +kernel
theorem dX7_bus_54 : decode cX7_bus 54 = .ok (.iastore, 1) := by decide +kernel
theorem dX7_bus_55 : decode cX7_bus 55 = .ok (.aload_n 0, 1) := by decide +kernel
theorem dX7_bus_56 : decode cX7_bus 56 = .ok (.getfield 52, 3) := by decide +kernel
theorem dX7_bus_59 : decode cX7_bus 59 = .ok (.iload_n 1, 1) := by decide +kernel
theorem dX7_bus_60 : decode cX7_bus 60 = .ok (.iload_n 3, 1) := by decide +kernel
theorem dX7_bus_61 : decode cX7_bus 61 = .ok (.iastore, 1) := by decide +kernel
theorem dX7_bus_62 : decode cX7_bus 62 = .ok (.return_, 1) := by decide +kernel
theorem dX7_reside_0 : decode cX7_reside 0 = .ok (.aload_n 0, 1) := by decide +kernel
theorem dX7_reside_1 : decode cX7_reside 1 = .ok (.iload_n 1, 1) := by decide +kernel
theorem dX7_reside_2 : decode cX7_reside 2 = .ok (.iconst 0, 1) := by decide +kernel
theorem dX7_reside_3 : decode cX7_reside 3 = .ok (.bipush 9, 2) := by decide +kernel
theorem dX7_reside_5 : decode cX7_reside 5 = .ok (.invokestatic 137, 3) := by decide +kernel
theorem dX7_reside_8 : decode cX7_reside 8 = .ok (.ifCond .eq 12, 3) := by decide +kernel
theorem dX7_reside_11 : decode cX7_reside 11 = .ok (.iload_n 2, 1) := by decide +kernel
theorem dX7_reside_12 : decode cX7_reside 12 = .ok (.iconst (-1), 1) := by decide +kernel
theorem dX7_reside_13 : decode cX7_reside 13 = .ok (.iconst 5, 1) := by decide +kernel
theorem dX7_reside_14 : decode cX7_reside 14 = .ok (.invokestatic 137, 3) := by decide +kernel
theorem dX7_reside_17 : decode cX7_reside 17 = .ok (.ifCond .ne 7, 3) := by decide +kernel
theorem dX7_reside_20 : decode cX7_reside 20 = .ok (.iconst 1, 1) := by decide +kernel
theorem dX7_reside_21 : decode cX7_reside 21 = .ok (.goto 4, 3) := by decide +kernel
theorem dX7_reside_24 : decode cX7_reside 24 = .ok (.iconst 0, 1) := by decide +kernel
theorem dX7_reside_25 : decode cX7_reside 25 = .ok (.putfield 133, 3) := by decide +kernel
theorem dX7_reside_28 : decode cX7_reside 28 = .ok (.aload_n 0, 1) := by decide +kernel
theorem dX7_reside_29 : decode cX7_reside 29 = .ok (.getfield 133, 3) := by decide +kernel
theorem dX7_reside_32 : decode cX7_reside 32 = .ok (.ifCond .le 5, 3) := by decide +kernel
theorem dX7_reside_35 : decode cX7_reside 35 = .ok (.iconst 0, 1) := by decide +kernel
theorem dX7_reside_36 : decode cX7_reside 36 = .ok (.ireturn, 1) := by decide +kernel
theorem dX7_reside_37 : decode cX7_reside 37 = .ok (.aload_n 0, 1) := by decide +kernel
theorem dX7_reside_38 : decode cX7_reside 38 = .ok (.getfield 55, 3) := by decide +kernel
theorem dX7_reside_41 : decode cX7_reside 41 = .ok (.iload_n 1, 1) := by decide +kernel
theorem dX7_reside_42 : decode cX7_reside 42 = .ok (.iaload, 1) := by decide +kernel
theorem dX7_reside_43 : decode cX7_reside 43 = .ok (.iconst 1, 1) := by decide +kernel
theorem dX7_reside_44 : decode cX7_reside 44 = .ok (.isub, 1) := by decide +kernel
theorem dX7_reside_45 : decode cX7_reside 45 = .ok (.istore_n 3, 1) := by decide +kernel
theorem dX7_reside_46 : decode cX7_reside 46 = .ok (.aload_n 0, 1) := by decide +kernel
theorem dX7_reside_47 : decode cX7_reside 47 = .ok (.getfield 55, 3) := by decide +kernel
theorem dX7_reside_50 : decode cX7_reside 50 = .ok (.iload_n 1, 1) := by decide +kernel
theorem dX7_reside_51 : decode cX7_reside 51 = .ok (.iload_n 2, 1) := by decide +kernel
theorem dX7_reside_52 : decode cX7_reside 52 = .ok (.iconst 1, 1) := by decide +kernel
theorem dX7_reside_53 : decode cX7_reside 53 = .ok (.iadd, 1) := by decide +kernel
theorem dX7_reside_54 : decode cX7_reside 54 = .ok (.iastore, 1) := by decide +kernel
theorem dX7_reside_55 : decode cX7_reside 55 = .ok (.iload_n 3, 1) := by decide +kernel
theorem dX7_reside_56 : decode cX7_reside 56 = .ok (.ireturn, 1) := by decide +kernel
theorem dX7_hoursOf_0 : decode cX7_hoursOf 0 = .ok (.aload_n 0, 1) := by decide +kernel
theorem dX7_hoursOf_1 : decode cX7_hoursOf 1 = .ok (.getfield 25, 3) := by decide +kernel
theorem dX7_hoursOf_4 : decode cX7_hoursOf 4 = .ok (.aload_n 0, 1) := by decide +kernel
theorem dX7_hoursOf_5 : decode cX7_hoursOf 5 = .ok (.getfield 58, 3) := by decide +kernel
theorem dX7_hoursOf_8 : decode cX7_hoursOf 8 = .ok (.iload_n 1, 1) := by decide +kernel
theorem dX7_hoursOf_9 : decode cX7_hoursOf 9 = .ok (.iaload, 1) := by decide +kernel
theorem dX7_hoursOf_10 : decode cX7_hoursOf 10 = .ok (.iaload, 1) := by decide +kernel
theorem dX7_hoursOf_11 : decode cX7_hoursOf 11 = .ok (.istore_n 2, 1) := by decide +kernel
theorem dX7_hoursOf_12 : decode cX7_hoursOf 12 = .ok (.aload_n 0, 1) := by decide +kernel
theorem dX7_hoursOf_13 : decode cX7_hoursOf 13 = .ok (.getfield 70, 3) := by decide +kernel
theorem dX7_hoursOf_16 : decode cX7_hoursOf 16 = .ok (.iload_n 1, 1) := by decide +kernel
theorem dX7_hoursOf_17 : decode cX7_hoursOf 17 = .ok (.iaload, 1) := by decide +kernel
theorem dX7_hoursOf_18 : decode cX7_hoursOf 18 = .ok (.iload_n 2, 1) := by decide +kernel
theorem dX7_hoursOf_19 : decode cX7_hoursOf 19 = .ok (.iadd, 1) := by decide +kernel
theorem dX7_hoursOf_20 : decode cX7_hoursOf 20 = .ok (.iconst 1, 1) := by decide +kernel
theorem dX7_hoursOf_21 : decode cX7_hoursOf 21 = .ok (.isub, 1) := by decide +kernel
theorem dX7_hoursOf_22 : decode cX7_hoursOf 22 = .ok (.iload_n 2, 1) := by decide +kernel
theorem dX7_hoursOf_23 : decode cX7_hoursOf 23 = .ok (.idiv, 1) := by decide +kernel
theorem dX7_hoursOf_24 : decode cX7_hoursOf 24 = .ok (.ireturn, 1) := by decide +kernel
theorem dX7_endOf_0 : decode cX7_endOf 0 = .ok (.aload_n 0, 1) := by decide +kernel
theorem dX7_endOf_1 : decode cX7_endOf 1 = .ok (.getfield 67, 3) := by decide +kernel
theorem dX7_endOf_4 : decode cX7_endOf 4 = .ok (.iload_n 1, 1) := by decide +kernel
theorem dX7_endOf_5 : decode cX7_endOf 5 = .ok (.iaload, 1) := by decide +kernel
theorem dX7_endOf_6 : decode cX7_endOf 6 = .ok (.aload_n 0, 1) := by decide +kernel
theorem dX7_endOf_7 : decode cX7_endOf 7 = .ok (.iload_n 1, 1) := by decide +kernel
theorem dX7_endOf_8 : decode cX7_endOf 8 = .ok (.invokevirtual 170, 3) := by decide +kernel
theorem dX7_endOf_11 : decode cX7_endOf 11 = .ok (.iadd, 1) := by decide +kernel
theorem dX7_endOf_12 : decode cX7_endOf 12 = .ok (.ireturn, 1) := by decide +kernel
theorem dX7_placeIn_0 : decode cX7_placeIn 0 = .ok (.aload_n 0, 1) := by decide +kernel
theorem dX7_placeIn_1 : decode cX7_placeIn 1 = .ok (.getfield 7, 3) := by decide +kernel
theorem dX7_placeIn_4 : decode cX7_placeIn 4 = .ok (.iload_n 1, 1) := by decide +kernel
theorem dX7_placeIn_5 : decode cX7_placeIn 5 = .ok (.iaload, 1) := by decide +kernel
theorem dX7_placeIn_6 : decode cX7_placeIn 6 = .ok (.istore_n 3, 1) := by decide +kernel
theorem dX7_placeIn_7 : decode cX7_placeIn 7 = .ok (.iconst (-1), 1) := by decide +kernel
theorem dX7_placeIn_8 : decode cX7_placeIn 8 = .ok (.istore 4, 2) := by decide +kernel
theorem dX7_placeIn_10 : decode cX7_placeIn 10 = .ok (.iconst 0, 1) := by decide +kernel
theorem dX7_placeIn_11 : decode cX7_placeIn 11 = .ok (.istore 5, 2) := by decide +kernel
theorem dX7_placeIn_13 : decode cX7_placeIn 13 = .ok (.iload 5, 2) := by decide +kernel
theorem dX7_placeIn_15 : decode cX7_placeIn 15 = .ok (.aload_n 0, 1) := by decide +kernel
theorem dX7_placeIn_16 : decode cX7_placeIn 16 = .ok (.getfield 144, 3) := by decide +kernel
theorem dX7_placeIn_19 : decode cX7_placeIn 19 = .ok (.if_icmp .ge 85, 3) := by decide +kernel
theorem dX7_placeIn_22 : decode cX7_placeIn 22 = .ok (.aload_n 0, 1) := by decide +kernel
theorem dX7_placeIn_23 : decode cX7_placeIn 23 = .ok (.getfield 58, 3) := by decide +kernel
theorem dX7_placeIn_26 : decode cX7_placeIn 26 = .ok (.iload 5, 2) := by decide +kernel
theorem dX7_placeIn_28 : decode cX7_placeIn 28 = .ok (.iaload, 1) := by decide +kernel
theorem dX7_placeIn_29 : decode cX7_placeIn 29 = .ok (.iload_n 1, 1) := by decide +kernel
theorem dX7_placeIn_30 : decode cX7_placeIn 30 = .ok (.if_icmp .ne 68, 3) := by decide +kernel
theorem dX7_placeIn_33 : decode cX7_placeIn 33 = .ok (.aload_n 0, 1) := by decide +kernel
theorem dX7_placeIn_34 : decode cX7_placeIn 34 = .ok (.getfield 73, 3) := by decide +kernel
theorem dX7_placeIn_37 : decode cX7_placeIn 37 = .ok (.iload 5, 2) := by decide +kernel
theorem dX7_placeIn_39 : decode cX7_placeIn 39 = .ok (.iaload, 1) := by decide +kernel
theorem dX7_placeIn_40 : decode cX7_placeIn 40 = .ok (.iconst 2, 1) := by decide +kernel
theorem dX7_placeIn_41 : decode cX7_placeIn 41 = .ok (.if_icmp .ne 57, 3) := by decide +kernel
theorem dX7_placeIn_44 : decode cX7_placeIn 44 = .ok (.aload_n 0, 1) := by decide +kernel
theorem dX7_placeIn_45 : decode cX7_placeIn 45 = .ok (.getfield 67, 3) := by decide +kernel
theorem dX7_placeIn_48 : decode cX7_placeIn 48 = .ok (.iload 5, 2) := by decide +kernel
theorem dX7_placeIn_50 : decode cX7_placeIn 50 = .ok (.iaload, 1) := by decide +kernel
theorem dX7_placeIn_51 : decode cX7_placeIn 51 = .ok (.iload_n 2, 1) := by decide +kernel
theorem dX7_placeIn_52 : decode cX7_placeIn 52 = .ok (.if_icmp .gt 46, 3) := by decide +kernel
theorem dX7_placeIn_55 : decode cX7_placeIn 55 = .ok (.aload_n 0, 1) := by decide +kernel
theorem dX7_placeIn_56 : decode cX7_placeIn 56 = .ok (.getfield 67, 3) := by decide +kernel
theorem dX7_placeIn_59 : decode cX7_placeIn 59 = .ok (.iload 5, 2) := by decide +kernel
theorem dX7_placeIn_61 : decode cX7_placeIn 61 = .ok (.iaload, 1) := by decide +kernel
theorem dX7_placeIn_62 : decode cX7_placeIn 62 = .ok (.iload 4, 2) := by decide +kernel
theorem dX7_placeIn_64 : decode cX7_placeIn 64 = .ok (.if_icmp .le 34, 3) := by decide +kernel
theorem dX7_placeIn_67 : decode cX7_placeIn 67 = .ok (.aload_n 0, 1) := by decide +kernel
theorem dX7_placeIn_68 : decode cX7_placeIn 68 = .ok (.getfield 67, 3) := by decide +kernel
theorem dX7_placeIn_71 : decode cX7_placeIn 71 = .ok (.iload 5, 2) := by decide +kernel
theorem dX7_placeIn_73 : decode cX7_placeIn 73 = .ok (.iaload, 1) := by decide +kernel
theorem dX7_placeIn_74 : decode cX7_placeIn 74 = .ok (.istore 4, 2) := by decide +kernel
theorem dX7_placeIn_76 : decode cX7_placeIn 76 = .ok (.iload_n 2, 1) := by decide +kernel
theorem dX7_placeIn_77 : decode cX7_placeIn 77 = .ok (.aload_n 0, 1) := by decide +kernel
theorem dX7_placeIn_78 : decode cX7_placeIn 78 = .ok (.iload 5, 2) := by decide +kernel
theorem dX7_placeIn_80 : decode cX7_placeIn 80 = .ok (.invokevirtual 174, 3) := by decide +kernel
theorem dX7_placeIn_83 : decode cX7_placeIn 83 = .ok (.if_icmp .ge 7, 3) := by decide +kernel
theorem dX7_placeIn_86 : decode cX7_placeIn 86 = .ok (.iconst (-1), 1) := by decide +kernel
theorem dX7_placeIn_87 : decode cX7_placeIn 87 = .ok (.goto 10, 3) := by decide +kernel
theorem dX7_placeIn_90 : decode cX7_placeIn 90 = .ok (.aload_n 0, 1) := by decide +kernel
theorem dX7_placeIn_91 : decode cX7_placeIn 91 = .ok (.getfield 64, 3) := by decide +kernel
theorem dX7_placeIn_94 : decode cX7_placeIn 94 = .ok (.iload 5, 2) := by decide +kernel
theorem dX7_placeIn_96 : decode cX7_placeIn 96 = .ok (.iaload, 1) := by decide +kernel
theorem dX7_placeIn_97 : decode cX7_placeIn 97 = .ok (.istore_n 3, 1) := by decide +kernel
theorem dX7_placeIn_98 : decode cX7_placeIn 98 = .ok (.iinc 5 1, 3) := by decide +kernel
theorem dX7_placeIn_101 : decode cX7_placeIn 101 = .ok (.goto (-88), 3) := by decide +kernel
theorem dX7_placeIn_104 : decode cX7_placeIn 104 = .ok (.iload_n 3, 1) := by decide +kernel
theorem dX7_placeIn_105 : decode cX7_placeIn 105 = .ok (.ireturn, 1) := by decide +kernel
theorem dX7_lastOf_0 : decode cX7_lastOf 0 = .ok (.iconst (-1), 1) := by decide +kernel
theorem dX7_lastOf_1 : decode cX7_lastOf 1 = .ok (.istore_n 2, 1) := by decide +kernel
theorem dX7_lastOf_2 : decode cX7_lastOf 2 = .ok (.iconst 0, 1) := by decide +kernel
theorem dX7_lastOf_3 : decode cX7_lastOf 3 = .ok (.istore_n 3, 1) := by decide +kernel
theorem dX7_lastOf_4 : decode cX7_lastOf 4 = .ok (.iload_n 3, 1) := by decide +kernel
theorem dX7_lastOf_5 : decode cX7_lastOf 5 = .ok (.aload_n 0, 1) := by decide +kernel
theorem dX7_lastOf_6 : decode cX7_lastOf 6 = .ok (.getfield 144, 3) := by decide +kernel
theorem dX7_lastOf_9 : decode cX7_lastOf 9 = .ok (.if_icmp .ge 67, 3) := by decide +kernel
theorem dX7_lastOf_12 : decode cX7_lastOf 12 = .ok (.aload_n 0, 1) := by decide +kernel
theorem dX7_lastOf_13 : decode cX7_lastOf 13 = .ok (.getfield 58, 3) := by decide +kernel
theorem dX7_lastOf_16 : decode cX7_lastOf 16 = .ok (.iload_n 3, 1) := by decide +kernel
theorem dX7_lastOf_17 : decode cX7_lastOf 17 = .ok (.iaload, 1) := by decide +kernel
theorem dX7_lastOf_18 : decode cX7_lastOf 18 = .ok (.iload_n 1, 1) := by decide +kernel
theorem dX7_lastOf_19 : decode cX7_lastOf 19 = .ok (.if_icmp .ne 17, 3) := by decide +kernel
theorem dX7_lastOf_22 : decode cX7_lastOf 22 = .ok (.aload_n 0, 1) := by decide +kernel
theorem dX7_lastOf_23 : decode cX7_lastOf 23 = .ok (.getfield 73, 3) := by decide +kernel
theorem dX7_lastOf_26 : decode cX7_lastOf 26 = .ok (.iload_n 3, 1) := by decide +kernel
theorem dX7_lastOf_27 : decode cX7_lastOf 27 = .ok (.iaload, 1) := by decide +kernel
theorem dX7_lastOf_28 : decode cX7_lastOf 28 = .ok (.iconst 1, 1) := by decide +kernel
theorem dX7_lastOf_29 : decode cX7_lastOf 29 = .ok (.if_icmp .eq 7, 3) := by decide +kernel
theorem dX7_lastOf_32 : decode cX7_lastOf 32 = .ok (.iconst 1, 1) := by decide +kernel
theorem dX7_lastOf_33 : decode cX7_lastOf 33 = .ok (.goto 4, 3) := by decide +kernel
theorem dX7_lastOf_36 : decode cX7_lastOf 36 = .ok (.iconst 0, 1) := by decide +kernel
theorem dX7_lastOf_37 : decode cX7_lastOf 37 = .ok (.istore 4, 2) := by decide +kernel
theorem dX7_lastOf_39 : decode cX7_lastOf 39 = .ok (.iload 4, 2) := by decide +kernel
theorem dX7_lastOf_41 : decode cX7_lastOf 41 = .ok (.ifCond .eq 27, 3) := by decide +kernel
theorem dX7_lastOf_44 : decode cX7_lastOf 44 = .ok (.iload_n 2, 1) := by decide +kernel
theorem dX7_lastOf_45 : decode cX7_lastOf 45 = .ok (.iconst (-1), 1) := by decide +kernel
theorem dX7_lastOf_46 : decode cX7_lastOf 46 = .ok (.if_icmp .eq 18, 3) := by decide +kernel
theorem dX7_lastOf_49 : decode cX7_lastOf 49 = .ok (.aload_n 0, 1) := by decide +kernel
theorem dX7_lastOf_50 : decode cX7_lastOf 50 = .ok (.getfield 67, 3) := by decide +kernel
theorem dX7_lastOf_53 : decode cX7_lastOf 53 = .ok (.iload_n 3, 1) := by decide +kernel
theorem dX7_lastOf_54 : decode cX7_lastOf 54 = .ok (.iaload, 1) := by decide +kernel
theorem dX7_lastOf_55 : decode cX7_lastOf 55 = .ok (.aload_n 0, 1) := by decide +kernel
theorem dX7_lastOf_56 : decode cX7_lastOf 56 = .ok (.getfield 67, 3) := by decide +kernel
theorem dX7_lastOf_59 : decode cX7_lastOf 59 = .ok (.iload_n 2, 1) := by decide +kernel
theorem dX7_lastOf_60 : decode cX7_lastOf 60 = .ok (.iaload, 1) := by decide +kernel
theorem dX7_lastOf_61 : decode cX7_lastOf 61 = .ok (.if_icmp .lt 7, 3) := by decide +kernel
theorem dX7_lastOf_64 : decode cX7_lastOf 64 = .ok (.iload_n 3, 1) := by decide +kernel
theorem dX7_lastOf_65 : decode cX7_lastOf 65 = .ok (.goto 4, 3) := by decide +kernel
theorem dX7_lastOf_68 : decode cX7_lastOf 68 = .ok (.iload_n 2, 1) := by decide +kernel
theorem dX7_lastOf_69 : decode cX7_lastOf 69 = .ok (.istore_n 2, 1) := by decide +kernel
theorem dX7_lastOf_70 : decode cX7_lastOf 70 = .ok (.iinc 3 1, 3) := by decide +kernel
theorem dX7_lastOf_73 : decode cX7_lastOf 73 = .ok (.goto (-69), 3) := by decide +kernel
theorem dX7_lastOf_76 : decode cX7_lastOf 76 = .ok (.iload_n 2, 1) := by decide +kernel
theorem dX7_lastOf_77 : decode cX7_lastOf 77 = .ok (.ireturn, 1) := by decide +kernel
theorem dX7_makes_0 : decode cX7_makes 0 = .ok (.aload_n 0, 1) := by decide +kernel
theorem dX7_makes_1 : decode cX7_makes 1 = .ok (.getfield 58, 3) := by decide +kernel
theorem dX7_makes_4 : decode cX7_makes 4 = .ok (.aload_n 0, 1) := by decide +kernel
theorem dX7_makes_5 : decode cX7_makes 5 = .ok (.getfield 144, 3) := by decide +kernel
theorem dX7_makes_8 : decode cX7_makes 8 = .ok (.iload_n 1, 1) := by decide +kernel
theorem dX7_makes_9 : decode cX7_makes 9 = .ok (.iastore, 1) := by decide +kernel
theorem dX7_makes_10 : decode cX7_makes 10 = .ok (.aload_n 0, 1) := by decide +kernel
theorem dX7_makes_11 : decode cX7_makes 11 = .ok (.getfield 61, 3) := by decide +kernel
theorem dX7_makes_14 : decode cX7_makes 14 = .ok (.aload_n 0, 1) := by decide +kernel
theorem dX7_makes_15 : decode cX7_makes 15 = .ok (.getfield 144, 3) := by decide +kernel
theorem dX7_makes_18 : decode cX7_makes 18 = .ok (.iload_n 2, 1) := by decide +kernel
theorem dX7_makes_19 : decode cX7_makes 19 = .ok (.iastore, 1) := by decide +kernel
theorem dX7_makes_20 : decode cX7_makes 20 = .ok (.aload_n 0, 1) := by decide +kernel
theorem dX7_makes_21 : decode cX7_makes 21 = .ok (.getfield 64, 3) := by decide +kernel
theorem dX7_makes_24 : decode cX7_makes 24 = .ok (.aload_n 0, 1) := by decide +kernel
theorem dX7_makes_25 : decode cX7_makes 25 = .ok (.getfield 144, 3) := by decide +kernel
theorem dX7_makes_28 : decode cX7_makes 28 = .ok (.iload_n 3, 1) := by decide +kernel
theorem dX7_makes_29 : decode cX7_makes 29 = .ok (.iastore, 1) := by decide +kernel
theorem dX7_makes_30 : decode cX7_makes 30 = .ok (.aload_n 0, 1) := by decide +kernel
theorem dX7_makes_31 : decode cX7_makes 31 = .ok (.getfield 67, 3) := by decide +kernel
theorem dX7_makes_34 : decode cX7_makes 34 = .ok (.aload_n 0, 1) := by decide +kernel
theorem dX7_makes_35 : decode cX7_makes 35 = .ok (.getfield 144, 3) := by decide +kernel
theorem dX7_makes_38 : decode cX7_makes 38 = .ok (.iload 4, 2) := by decide +kernel
theorem dX7_makes_40 : decode cX7_makes 40 = .ok (.iastore, 1) := by decide +kernel
theorem dX7_makes_41 : decode cX7_makes 41 = .ok (.aload_n 0, 1) := by decide +kernel
theorem dX7_makes_42 : decode cX7_makes 42 = .ok (.getfield 70, 3) := by decide +kernel
theorem dX7_makes_45 : decode cX7_makes 45 = .ok (.aload_n 0, 1) := by decide +kernel
theorem dX7_makes_46 : decode cX7_makes 46 = .ok (.getfield 144, 3) := by decide +kernel
theorem dX7_makes_49 : decode cX7_makes 49 = .ok (.iload 5, 2) := by decide +kernel
theorem dX7_makes_51 : decode cX7_makes 51 = .ok (.iastore, 1) := by decide +kernel
theorem dX7_makes_52 : decode cX7_makes 52 = .ok (.aload_n 0, 1) := by decide +kernel
theorem dX7_makes_53 : decode cX7_makes 53 = .ok (.getfield 73, 3) := by decide +kernel
theorem dX7_makes_56 : decode cX7_makes 56 = .ok (.aload_n 0, 1) := by decide +kernel
theorem dX7_makes_57 : decode cX7_makes 57 = .ok (.getfield 144, 3) := by decide +kernel
theorem dX7_makes_60 : decode cX7_makes 60 = .ok (.iconst 0, 1) := by decide +kernel
theorem dX7_makes_61 : decode cX7_makes 61 = .ok (.iastore, 1) := by decide +kernel
theorem dX7_makes_62 : decode cX7_makes 62 = .ok (.aload_n 0, 1) := by decide +kernel
theorem dX7_makes_63 : decode cX7_makes 63 = .ok (.dup, 1) := by decide +kernel
theorem dX7_makes_64 : decode cX7_makes 64 = .ok (.getfield 144, 3) := by decide +kernel
theorem dX7_makes_67 : decode cX7_makes 67 = .ok (.iconst 1, 1) := by decide +kernel
theorem dX7_makes_68 : decode cX7_makes 68 = .ok (.iadd, 1) := by decide +kernel
theorem dX7_makes_69 : decode cX7_makes 69 = .ok (.putfield 144, 3) := by decide +kernel
theorem dX7_makes_72 : decode cX7_makes 72 = .ok (.aload_n 0, 1) := by decide +kernel
theorem dX7_makes_73 : decode cX7_makes 73 = .ok (.getfield 144, 3) := by decide +kernel
theorem dX7_makes_76 : decode cX7_makes 76 = .ok (.iconst 1, 1) := by decide +kernel
theorem dX7_makes_77 : decode cX7_makes 77 = .ok (.isub, 1) := by decide +kernel
theorem dX7_makes_78 : decode cX7_makes 78 = .ok (.ireturn, 1) := by decide +kernel
theorem dX7_plan_0 : decode cX7_plan 0 = .ok (.aload_n 0, 1) := by decide +kernel
theorem dX7_plan_1 : decode cX7_plan 1 = .ok (.aload_n 0, 1) := by decide +kernel
theorem dX7_plan_2 : decode cX7_plan 2 = .ok (.iload_n 1, 1) := by decide +kernel
theorem dX7_plan_3 : decode cX7_plan 3 = .ok (.invokevirtual 154, 3) := by decide +kernel
theorem dX7_plan_6 : decode cX7_plan 6 = .ok (.ifCond .eq 10, 3) := by decide +kernel
theorem dX7_plan_9 : decode cX7_plan 9 = .ok (.iload_n 2, 1) := by decide +kernel
theorem dX7_plan_10 : decode cX7_plan 10 = .ok (.invokestatic 150, 3) := by decide +kernel
theorem dX7_plan_13 : decode cX7_plan 13 = .ok (.ifCond .ne 7, 3) := by decide +kernel
theorem dX7_plan_16 : decode cX7_plan 16 = .ok (.iconst 1, 1) := by decide +kernel
theorem dX7_plan_17 : decode cX7_plan 17 = .ok (.goto 4, 3) := by decide +kernel
theorem dX7_plan_20 : decode cX7_plan 20 = .ok (.iconst 0, 1) := by decide +kernel
theorem dX7_plan_21 : decode cX7_plan 21 = .ok (.putfield 133, 3) := by decide +kernel
theorem dX7_plan_24 : decode cX7_plan 24 = .ok (.aload_n 0, 1) := by decide +kernel
theorem dX7_plan_25 : decode cX7_plan 25 = .ok (.getfield 133, 3) := by decide +kernel
theorem dX7_plan_28 : decode cX7_plan 28 = .ok (.ifCond .le 5, 3) := by decide +kernel
theorem dX7_plan_31 : decode cX7_plan 31 = .ok (.iconst 0, 1) := by decide +kernel
theorem dX7_plan_32 : decode cX7_plan 32 = .ok (.ireturn, 1) := by decide +kernel
theorem dX7_plan_33 : decode cX7_plan 33 = .ok (.aload_n 0, 1) := by decide +kernel
theorem dX7_plan_34 : decode cX7_plan 34 = .ok (.iload_n 1, 1) := by decide +kernel
theorem dX7_plan_35 : decode cX7_plan 35 = .ok (.invokevirtual 177, 3) := by decide +kernel
theorem dX7_plan_38 : decode cX7_plan 38 = .ok (.istore 5, 2) := by decide +kernel
theorem dX7_plan_40 : decode cX7_plan 40 = .ok (.iload 5, 2) := by decide +kernel
theorem dX7_plan_42 : decode cX7_plan 42 = .ok (.iconst (-1), 1) := by decide +kernel
theorem dX7_plan_43 : decode cX7_plan 43 = .ok (.if_icmp .ne 15, 3) := by decide +kernel
theorem dX7_plan_46 : decode cX7_plan 46 = .ok (.aload_n 0, 1) := by decide +kernel
theorem dX7_plan_47 : decode cX7_plan 47 = .ok (.iload_n 1, 1) := by decide +kernel
theorem dX7_plan_48 : decode cX7_plan 48 = .ok (.aload_n 0, 1) := by decide +kernel
theorem dX7_plan_49 : decode cX7_plan 49 = .ok (.getfield 180, 3) := by decide +kernel
theorem dX7_plan_52 : decode cX7_plan 52 = .ok (.invokevirtual 183, 3) := by decide +kernel
theorem dX7_plan_55 : decode cX7_plan 55 = .ok (.goto 10, 3) := by decide +kernel
theorem dX7_plan_58 : decode cX7_plan 58 = .ok (.aload_n 0, 1) := by decide +kernel
theorem dX7_plan_59 : decode cX7_plan 59 = .ok (.getfield 64, 3) := by decide +kernel
theorem dX7_plan_62 : decode cX7_plan 62 = .ok (.iload 5, 2) := by decide +kernel
theorem dX7_plan_64 : decode cX7_plan 64 = .ok (.iaload, 1) := by decide +kernel
theorem dX7_plan_65 : decode cX7_plan 65 = .ok (.istore 6, 2) := by decide +kernel
theorem dX7_plan_67 : decode cX7_plan 67 = .ok (.aload_n 0, 1) := by decide +kernel
theorem dX7_plan_68 : decode cX7_plan 68 = .ok (.iload_n 3, 1) := by decide +kernel
theorem dX7_plan_69 : decode cX7_plan 69 = .ok (.aload_n 0, 1) := by decide +kernel
theorem dX7_plan_70 : decode cX7_plan 70 = .ok (.getfield 180, 3) := by decide +kernel
theorem dX7_plan_73 : decode cX7_plan 73 = .ok (.sipush 10000, 3) := by decide +kernel
theorem dX7_plan_76 : decode cX7_plan 76 = .ok (.invokestatic 137, 3) := by decide +kernel
theorem dX7_plan_79 : decode cX7_plan 79 = .ok (.ifCond .eq 21, 3) := by decide +kernel
theorem dX7_plan_82 : decode cX7_plan 82 = .ok (.iload 4, 2) := by decide +kernel
theorem dX7_plan_84 : decode cX7_plan 84 = .ok (.iconst 1, 1) := by decide +kernel
theorem dX7_plan_85 : decode cX7_plan 85 = .ok (.sipush 400, 3) := by decide +kernel
theorem dX7_plan_88 : decode cX7_plan 88 = .ok (.invokestatic 137, 3) := by decide +kernel
theorem dX7_plan_91 : decode cX7_plan 91 = .ok (.ifCond .eq 9, 3) := by decide +kernel
theorem dX7_plan_94 : decode cX7_plan 94 = .ok (.iload_n 2, 1) := by decide +kernel
theorem dX7_plan_95 : decode cX7_plan 95 = .ok (.iload 6, 2) := by decide +kernel
theorem dX7_plan_97 : decode cX7_plan 97 = .ok (.if_icmp .ne 7, 3) := by decide +kernel
theorem dX7_plan_100 : decode cX7_plan 100 = .ok (.iconst 2, 1) := by decide +kernel
theorem dX7_plan_101 : decode cX7_plan 101 = .ok (.goto 33, 3) := by decide +kernel
theorem dX7_plan_104 : decode cX7_plan 104 = .ok (.iload 5, 2) := by decide +kernel
theorem dX7_plan_106 : decode cX7_plan 106 = .ok (.iconst (-1), 1) := by decide +kernel
theorem dX7_plan_107 : decode cX7_plan 107 = .ok (.if_icmp .eq 13, 3) := by decide +kernel
theorem dX7_plan_110 : decode cX7_plan 110 = .ok (.aload_n 0, 1) := by decide +kernel
theorem dX7_plan_111 : decode cX7_plan 111 = .ok (.iload 5, 2) := by decide +kernel
theorem dX7_plan_113 : decode cX7_plan 113 = .ok (.invokevirtual 174, 3) := by decide +kernel
theorem dX7_plan_116 : decode cX7_plan 116 = .ok (.iload_n 3, 1) := by decide +kernel
theorem dX7_plan_117 : decode cX7_plan 117 = .ok (.if_icmp .gt 12, 3) := by decide +kernel
theorem dX7_plan_120 : decode cX7_plan 120 = .ok (.aload_n 0, 1) := by decide +kernel
theorem dX7_plan_121 : decode cX7_plan 121 = .ok (.getfield 144, 3) := by decide +kernel
theorem dX7_plan_124 : decode cX7_plan 124 = .ok (.bipush 24, 2) := by decide +kernel
theorem dX7_plan_126 : decode cX7_plan 126 = .ok (.if_icmp .ne 7, 3) := by decide +kernel
theorem dX7_plan_129 : decode cX7_plan 129 = .ok (.iconst 3, 1) := by decide +kernel
theorem dX7_plan_130 : decode cX7_plan 130 = .ok (.goto 4, 3) := by decide +kernel
theorem dX7_plan_133 : decode cX7_plan 133 = .ok (.iconst 0, 1) := by decide +kernel
theorem dX7_plan_134 : decode cX7_plan 134 = .ok (.putfield 133, 3) := by decide +kernel
theorem dX7_plan_137 : decode cX7_plan 137 = .ok (.aload_n 0, 1) := by decide +kernel
theorem dX7_plan_138 : decode cX7_plan 138 = .ok (.getfield 133, 3) := by decide +kernel
theorem dX7_plan_141 : decode cX7_plan 141 = .ok (.ifCond .le 7, 3) := by decide +kernel
theorem dX7_plan_144 : decode cX7_plan 144 = .ok (.iconst 0, 1) := by decide +kernel
theorem dX7_plan_145 : decode cX7_plan 145 = .ok (.goto 14, 3) := by decide +kernel
theorem dX7_plan_148 : decode cX7_plan 148 = .ok (.aload_n 0, 1) := by decide +kernel
theorem dX7_plan_149 : decode cX7_plan 149 = .ok (.iload_n 1, 1) := by decide +kernel
theorem dX7_plan_150 : decode cX7_plan 150 = .ok (.iload 6, 2) := by decide +kernel
theorem dX7_plan_152 : decode cX7_plan 152 = .ok (.iload_n 2, 1) := by decide +kernel
theorem dX7_plan_153 : decode cX7_plan 153 = .ok (.iload_n 3, 1) := by decide +kernel
theorem dX7_plan_154 : decode cX7_plan 154 = .ok (.iload 4, 2) := by decide +kernel
theorem dX7_plan_156 : decode cX7_plan 156 = .ok (.invokevirtual 186, 3) := by decide +kernel
theorem dX7_plan_159 : decode cX7_plan 159 = .ok (.ireturn, 1) := by decide +kernel
theorem dX7_goesOver_0 : decode cX7_goesOver 0 = .ok (.aload_n 0, 1) := by decide +kernel
theorem dX7_goesOver_1 : decode cX7_goesOver 1 = .ok (.getfield 91, 3) := by decide +kernel
theorem dX7_goesOver_4 : decode cX7_goesOver 4 = .ok (.iload_n 1, 1) := by decide +kernel
theorem dX7_goesOver_5 : decode cX7_goesOver 5 = .ok (.iaload, 1) := by decide +kernel
theorem dX7_goesOver_6 : decode cX7_goesOver 6 = .ok (.iconst 1, 1) := by decide +kernel
theorem dX7_goesOver_7 : decode cX7_goesOver 7 = .ok (.isub, 1) := by decide +kernel
theorem dX7_goesOver_8 : decode cX7_goesOver 8 = .ok (.istore_n 2, 1) := by decide +kernel
theorem dX7_goesOver_9 : decode cX7_goesOver 9 = .ok (.iconst (-1), 1) := by decide +kernel
theorem dX7_goesOver_10 : decode cX7_goesOver 10 = .ok (.istore_n 3, 1) := by decide +kernel
theorem dX7_goesOver_11 : decode cX7_goesOver 11 = .ok (.iconst 0, 1) := by decide +kernel
theorem dX7_goesOver_12 : decode cX7_goesOver 12 = .ok (.istore 4, 2) := by decide +kernel
theorem dX7_goesOver_14 : decode cX7_goesOver 14 = .ok (.iload 4, 2) := by decide +kernel
theorem dX7_goesOver_16 : decode cX7_goesOver 16 = .ok (.aload_n 0, 1) := by decide +kernel
theorem dX7_goesOver_17 : decode cX7_goesOver 17 = .ok (.getfield 144, 3) := by decide +kernel
theorem dX7_goesOver_20 : decode cX7_goesOver 20 = .ok (.if_icmp .ge 91, 3) := by decide +kernel
theorem dX7_goesOver_23 : decode cX7_goesOver 23 = .ok (.aload_n 0, 1) := by decide +kernel
theorem dX7_goesOver_24 : decode cX7_goesOver 24 = .ok (.getfield 73, 3) := by decide +kernel
theorem dX7_goesOver_27 : decode cX7_goesOver 27 = .ok (.iload 4, 2) := by decide +kernel
theorem dX7_goesOver_29 : decode cX7_goesOver 29 = .ok (.iaload, 1) := by decide +kernel
theorem dX7_goesOver_30 : decode cX7_goesOver 30 = .ok (.ifCond .ne 39, 3) := by decide +kernel
theorem dX7_goesOver_33 : decode cX7_goesOver 33 = .ok (.aload_n 0, 1) := by decide +kernel
theorem dX7_goesOver_34 : decode cX7_goesOver 34 = .ok (.getfield 61, 3) := by decide +kernel
theorem dX7_goesOver_37 : decode cX7_goesOver 37 = .ok (.iload 4, 2) := by decide +kernel
theorem dX7_goesOver_39 : decode cX7_goesOver 39 = .ok (.iaload, 1) := by decide +kernel
theorem dX7_goesOver_40 : decode cX7_goesOver 40 = .ok (.aload_n 0, 1) := by decide +kernel
theorem dX7_goesOver_41 : decode cX7_goesOver 41 = .ok (.getfield 61, 3) := by decide +kernel
theorem dX7_goesOver_44 : decode cX7_goesOver 44 = .ok (.iload_n 2, 1) := by decide +kernel
theorem dX7_goesOver_45 : decode cX7_goesOver 45 = .ok (.iaload, 1) := by decide +kernel
theorem dX7_goesOver_46 : decode cX7_goesOver 46 = .ok (.if_icmp .ne 23, 3) := by decide +kernel
theorem dX7_goesOver_49 : decode cX7_goesOver 49 = .ok (.aload_n 0, 1) := by decide +kernel
theorem dX7_goesOver_50 : decode cX7_goesOver 50 = .ok (.getfield 64, 3) := by decide +kernel
theorem dX7_goesOver_53 : decode cX7_goesOver 53 = .ok (.iload 4, 2) := by decide +kernel
theorem dX7_goesOver_55 : decode cX7_goesOver 55 = .ok (.iaload, 1) := by decide +kernel
theorem dX7_goesOver_56 : decode cX7_goesOver 56 = .ok (.aload_n 0, 1) := by decide +kernel
theorem dX7_goesOver_57 : decode cX7_goesOver 57 = .ok (.getfield 64, 3) := by decide +kernel
theorem dX7_goesOver_60 : decode cX7_goesOver 60 = .ok (.iload_n 2, 1) := by decide +kernel
theorem dX7_goesOver_61 : decode cX7_goesOver 61 = .ok (.iaload, 1) := by decide +kernel
theorem dX7_goesOver_62 : decode cX7_goesOver 62 = .ok (.if_icmp .ne 7, 3) := by decide +kernel
theorem dX7_goesOver_65 : decode cX7_goesOver 65 = .ok (.iconst 1, 1) := by decide +kernel
theorem dX7_goesOver_66 : decode cX7_goesOver 66 = .ok (.goto 4, 3) := by decide +kernel
theorem dX7_goesOver_69 : decode cX7_goesOver 69 = .ok (.iconst 0, 1) := by decide +kernel
theorem dX7_goesOver_70 : decode cX7_goesOver 70 = .ok (.istore 5, 2) := by decide +kernel
theorem dX7_goesOver_72 : decode cX7_goesOver 72 = .ok (.iload 5, 2) := by decide +kernel
theorem dX7_goesOver_74 : decode cX7_goesOver 74 = .ok (.ifCond .eq 29, 3) := by decide +kernel
theorem dX7_goesOver_77 : decode cX7_goesOver 77 = .ok (.iload_n 3, 1) := by decide +kernel
theorem dX7_goesOver_78 : decode cX7_goesOver 78 = .ok (.iconst (-1), 1) := by decide +kernel
theorem dX7_goesOver_79 : decode cX7_goesOver 79 = .ok (.if_icmp .eq 19, 3) := by decide +kernel
theorem dX7_goesOver_82 : decode cX7_goesOver 82 = .ok (.aload_n 0, 1) := by decide +kernel
theorem dX7_goesOver_83 : decode cX7_goesOver 83 = .ok (.getfield 67, 3) := by decide +kernel
theorem dX7_goesOver_86 : decode cX7_goesOver 86 = .ok (.iload 4, 2) := by decide +kernel
theorem dX7_goesOver_88 : decode cX7_goesOver 88 = .ok (.iaload, 1) := by decide +kernel
theorem dX7_goesOver_89 : decode cX7_goesOver 89 = .ok (.aload_n 0, 1) := by decide +kernel
theorem dX7_goesOver_90 : decode cX7_goesOver 90 = .ok (.getfield 67, 3) := by decide +kernel
theorem dX7_goesOver_93 : decode cX7_goesOver 93 = .ok (.iload_n 3, 1) := by decide +kernel
theorem dX7_goesOver_94 : decode cX7_goesOver 94 = .ok (.iaload, 1) := by decide +kernel
theorem dX7_goesOver_95 : decode cX7_goesOver 95 = .ok (.if_icmp .ge 8, 3) := by decide +kernel
theorem dX7_goesOver_98 : decode cX7_goesOver 98 = .ok (.iload 4, 2) := by decide +kernel
theorem dX7_goesOver_100 : decode cX7_goesOver 100 = .ok (.goto 4, 3) := by decide +kernel
theorem dX7_goesOver_103 : decode cX7_goesOver 103 = .ok (.iload_n 3, 1) := by decide +kernel
theorem dX7_goesOver_104 : decode cX7_goesOver 104 = .ok (.istore_n 3, 1) := by decide +kernel
theorem dX7_goesOver_105 : decode cX7_goesOver 105 = .ok (.iinc 4 1, 3) := by decide +kernel
theorem dX7_goesOver_108 : decode cX7_goesOver 108 = .ok (.goto (-94), 3) := by decide +kernel
theorem dX7_goesOver_111 : decode cX7_goesOver 111 = .ok (.aload_n 0, 1) := by decide +kernel
theorem dX7_goesOver_112 : decode cX7_goesOver 112 = .ok (.getfield 115, 3) := by decide +kernel
theorem dX7_goesOver_115 : decode cX7_goesOver 115 = .ok (.iload_n 1, 1) := by decide +kernel
theorem dX7_goesOver_116 : decode cX7_goesOver 116 = .ok (.dup2, 1) := by decide +kernel
theorem dX7_goesOver_117 : decode cX7_goesOver 117 = .ok (.iaload, 1) := by decide +kernel
theorem dX7_goesOver_118 : decode cX7_goesOver 118 = .ok (.iconst 1, 1) := by decide +kernel
theorem dX7_goesOver_119 : decode cX7_goesOver 119 = .ok (.iadd, 1) := by decide +kernel
theorem dX7_goesOver_120 : decode cX7_goesOver 120 = .ok (.iastore, 1) := by decide +kernel
theorem dX7_goesOver_121 : decode cX7_goesOver 121 = .ok (.iload_n 3, 1) := by decide +kernel
theorem dX7_goesOver_122 : decode cX7_goesOver 122 = .ok (.iconst (-1), 1) := by decide +kernel
theorem dX7_goesOver_123 : decode cX7_goesOver 123 = .ok (.if_icmp .eq 13, 3) := by decide +kernel
theorem dX7_goesOver_126 : decode cX7_goesOver 126 = .ok (.aload_n 0, 1) := by decide +kernel
theorem dX7_goesOver_127 : decode cX7_goesOver 127 = .ok (.getfield 115, 3) := by decide +kernel
theorem dX7_goesOver_130 : decode cX7_goesOver 130 = .ok (.iload_n 1, 1) := by decide +kernel
theorem dX7_goesOver_131 : decode cX7_goesOver 131 = .ok (.iaload, 1) := by decide +kernel
theorem dX7_goesOver_132 : decode cX7_goesOver 132 = .ok (.iconst 3, 1) := by decide +kernel
theorem dX7_goesOver_133 : decode cX7_goesOver 133 = .ok (.if_icmp .ne 59, 3) := by decide +kernel
theorem dX7_goesOver_136 : decode cX7_goesOver 136 = .ok (.aload_n 0, 1) := by decide +kernel
theorem dX7_goesOver_137 : decode cX7_goesOver 137 = .ok (.dup, 1) := by decide +kernel
theorem dX7_goesOver_138 : decode cX7_goesOver 138 = .ok (.getfield 190, 3) := by decide +kernel
theorem dX7_goesOver_141 : decode cX7_goesOver 141 = .ok (.aload_n 0, 1) := by decide +kernel
theorem dX7_goesOver_142 : decode cX7_goesOver 142 = .ok (.getfield 109, 3) := by decide +kernel
theorem dX7_goesOver_145 : decode cX7_goesOver 145 = .ok (.iload_n 1, 1) := by decide +kernel
theorem dX7_goesOver_146 : decode cX7_goesOver 146 = .ok (.iaload, 1) := by decide +kernel
theorem dX7_goesOver_147 : decode cX7_goesOver 147 = .ok (.i2l, 1) := by decide +kernel
theorem dX7_goesOver_148 : decode cX7_goesOver 148 = .ok (.lsub, 1) := by decide +kernel
theorem dX7_goesOver_149 : decode cX7_goesOver 149 = .ok (.putfield 190, 3) := by decide +kernel
theorem dX7_goesOver_152 : decode cX7_goesOver 152 = .ok (.aload_n 0, 1) := by decide +kernel
theorem dX7_goesOver_153 : decode cX7_goesOver 153 = .ok (.dup, 1) := by decide +kernel
theorem dX7_goesOver_154 : decode cX7_goesOver 154 = .ok (.getfield 193, 3) := by decide +kernel
theorem dX7_goesOver_157 : decode cX7_goesOver 157 = .ok (.aload_n 0, 1) := by decide +kernel
theorem dX7_goesOver_158 : decode cX7_goesOver 158 = .ok (.getfield 112, 3) := by decide +kernel
theorem dX7_goesOver_161 : decode cX7_goesOver 161 = .ok (.iload_n 1, 1) := by decide +kernel
theorem dX7_goesOver_162 : decode cX7_goesOver 162 = .ok (.iaload, 1) := by decide +kernel
theorem dX7_goesOver_163 : decode cX7_goesOver 163 = .ok (.i2l, 1) := by decide +kernel
theorem dX7_goesOver_164 : decode cX7_goesOver 164 = .ok (.lsub, 1) := by decide +kernel
theorem dX7_goesOver_165 : decode cX7_goesOver 165 = .ok (.putfield 193, 3) := by decide +kernel
theorem dX7_goesOver_168 : decode cX7_goesOver 168 = .ok (.aload_n 0, 1) := by decide +kernel
theorem dX7_goesOver_169 : decode cX7_goesOver 169 = .ok (.getfield 109, 3) := by decide +kernel
theorem dX7_goesOver_172 : decode cX7_goesOver 172 = .ok (.iload_n 1, 1) := by decide +kernel
theorem dX7_goesOver_173 : decode cX7_goesOver 173 = .ok (.iconst 0, 1) := by decide +kernel
theorem dX7_goesOver_174 : decode cX7_goesOver 174 = .ok (.iastore, 1) := by decide +kernel
theorem dX7_goesOver_175 : decode cX7_goesOver 175 = .ok (.aload_n 0, 1) := by decide +kernel
theorem dX7_goesOver_176 : decode cX7_goesOver 176 = .ok (.getfield 112, 3) := by decide +kernel
theorem dX7_goesOver_179 : decode cX7_goesOver 179 = .ok (.iload_n 1, 1) := by decide +kernel
theorem dX7_goesOver_180 : decode cX7_goesOver 180 = .ok (.iconst 0, 1) := by decide +kernel
theorem dX7_goesOver_181 : decode cX7_goesOver 181 = .ok (.iastore, 1) := by decide +kernel
theorem dX7_goesOver_182 : decode cX7_goesOver 182 = .ok (.aload_n 0, 1) := by decide +kernel
theorem dX7_goesOver_183 : decode cX7_goesOver 183 = .ok (.getfield 91, 3) := by decide +kernel
theorem dX7_goesOver_186 : decode cX7_goesOver 186 = .ok (.iload_n 1, 1) := by decide +kernel
theorem dX7_goesOver_187 : decode cX7_goesOver 187 = .ok (.iconst 0, 1) := by decide +kernel
theorem dX7_goesOver_188 : decode cX7_goesOver 188 = .ok (.iastore, 1) := by decide +kernel
theorem dX7_goesOver_189 : decode cX7_goesOver 189 = .ok (.goto 12, 3) := by decide +kernel
theorem dX7_goesOver_192 : decode cX7_goesOver 192 = .ok (.aload_n 0, 1) := by decide +kernel
theorem dX7_goesOver_193 : decode cX7_goesOver 193 = .ok (.getfield 91, 3) := by decide +kernel
theorem dX7_goesOver_196 : decode cX7_goesOver 196 = .ok (.iload_n 1, 1) := by decide +kernel
theorem dX7_goesOver_197 : decode cX7_goesOver 197 = .ok (.iload_n 3, 1) := by decide +kernel
theorem dX7_goesOver_198 : decode cX7_goesOver 198 = .ok (.iconst 1, 1) := by decide +kernel
theorem dX7_goesOver_199 : decode cX7_goesOver 199 = .ok (.iadd, 1) := by decide +kernel
theorem dX7_goesOver_200 : decode cX7_goesOver 200 = .ok (.iastore, 1) := by decide +kernel
theorem dX7_goesOver_201 : decode cX7_goesOver 201 = .ok (.return_, 1) := by decide +kernel
theorem dX7_empties_0 : decode cX7_empties 0 = .ok (.iconst 0, 1) := by decide +kernel
theorem dX7_empties_1 : decode cX7_empties 1 = .ok (.istore_n 2, 1) := by decide +kernel
theorem dX7_empties_2 : decode cX7_empties 2 = .ok (.iconst 0, 1) := by decide +kernel
theorem dX7_empties_3 : decode cX7_empties 3 = .ok (.istore_n 3, 1) := by decide +kernel
theorem dX7_empties_4 : decode cX7_empties 4 = .ok (.iload_n 3, 1) := by decide +kernel
theorem dX7_empties_5 : decode cX7_empties 5 = .ok (.aload_n 0, 1) := by decide +kernel
theorem dX7_empties_6 : decode cX7_empties 6 = .ok (.getfield 147, 3) := by decide +kernel
theorem dX7_empties_9 : decode cX7_empties 9 = .ok (.if_icmp .ge 38, 3) := by decide +kernel
theorem dX7_empties_12 : decode cX7_empties 12 = .ok (.aload_n 0, 1) := by decide +kernel
theorem dX7_empties_13 : decode cX7_empties 13 = .ok (.getfield 91, 3) := by decide +kernel
theorem dX7_empties_16 : decode cX7_empties 16 = .ok (.iload_n 3, 1) := by decide +kernel
theorem dX7_empties_17 : decode cX7_empties 17 = .ok (.iaload, 1) := by decide +kernel
theorem dX7_empties_18 : decode cX7_empties 18 = .ok (.iload_n 1, 1) := by decide +kernel
theorem dX7_empties_19 : decode cX7_empties 19 = .ok (.iconst 1, 1) := by decide +kernel
theorem dX7_empties_20 : decode cX7_empties 20 = .ok (.iadd, 1) := by decide +kernel
theorem dX7_empties_21 : decode cX7_empties 21 = .ok (.if_icmp .ne 20, 3) := by decide +kernel
theorem dX7_empties_24 : decode cX7_empties 24 = .ok (.aload_n 0, 1) := by decide +kernel
theorem dX7_empties_25 : decode cX7_empties 25 = .ok (.getfield 118, 3) := by decide +kernel
theorem dX7_empties_28 : decode cX7_empties 28 = .ok (.iload_n 3, 1) := by decide +kernel
theorem dX7_empties_29 : decode cX7_empties 29 = .ok (.iaload, 1) := by decide +kernel
theorem dX7_empties_30 : decode cX7_empties 30 = .ok (.ifCond .ne 11, 3) := by decide +kernel
theorem dX7_empties_33 : decode cX7_empties 33 = .ok (.aload_n 0, 1) := by decide +kernel
theorem dX7_empties_34 : decode cX7_empties 34 = .ok (.iload_n 3, 1) := by decide +kernel
theorem dX7_empties_35 : decode cX7_empties 35 = .ok (.invokevirtual 196, 3) := by decide +kernel
theorem dX7_empties_38 : decode cX7_empties 38 = .ok (.iinc 2 1, 3) := by decide +kernel
theorem dX7_empties_41 : decode cX7_empties 41 = .ok (.iinc 3 1, 3) := by decide +kernel
theorem dX7_empties_44 : decode cX7_empties 44 = .ok (.goto (-40), 3) := by decide +kernel
theorem dX7_empties_47 : decode cX7_empties 47 = .ok (.iload_n 2, 1) := by decide +kernel
theorem dX7_empties_48 : decode cX7_empties 48 = .ok (.ireturn, 1) := by decide +kernel
theorem dX7_cancel_0 : decode cX7_cancel 0 = .ok (.aload_n 0, 1) := by decide +kernel
theorem dX7_cancel_1 : decode cX7_cancel 1 = .ok (.iload_n 1, 1) := by decide +kernel
theorem dX7_cancel_2 : decode cX7_cancel 2 = .ok (.invokevirtual 200, 3) := by decide +kernel
theorem dX7_cancel_5 : decode cX7_cancel 5 = .ok (.ifCond .ne 5, 3) := by decide +kernel
theorem dX7_cancel_8 : decode cX7_cancel 8 = .ok (.iconst 0, 1) := by decide +kernel
theorem dX7_cancel_9 : decode cX7_cancel 9 = .ok (.ireturn, 1) := by decide +kernel
theorem dX7_cancel_10 : decode cX7_cancel 10 = .ok (.aload_n 0, 1) := by decide +kernel
theorem dX7_cancel_11 : decode cX7_cancel 11 = .ok (.aload_n 0, 1) := by decide +kernel
theorem dX7_cancel_12 : decode cX7_cancel 12 = .ok (.getfield 73, 3) := by decide +kernel
theorem dX7_cancel_15 : decode cX7_cancel 15 = .ok (.iload_n 1, 1) := by decide +kernel
theorem dX7_cancel_16 : decode cX7_cancel 16 = .ok (.iaload, 1) := by decide +kernel
theorem dX7_cancel_17 : decode cX7_cancel 17 = .ok (.ifCond .ne 7, 3) := by decide +kernel
theorem dX7_cancel_20 : decode cX7_cancel 20 = .ok (.iconst 0, 1) := by decide +kernel
theorem dX7_cancel_21 : decode cX7_cancel 21 = .ok (.goto 4, 3) := by decide +kernel
theorem dX7_cancel_24 : decode cX7_cancel 24 = .ok (.iconst 2, 1) := by decide +kernel
theorem dX7_cancel_25 : decode cX7_cancel 25 = .ok (.putfield 133, 3) := by decide +kernel
theorem dX7_cancel_28 : decode cX7_cancel 28 = .ok (.aload_n 0, 1) := by decide +kernel
theorem dX7_cancel_29 : decode cX7_cancel 29 = .ok (.getfield 133, 3) := by decide +kernel
theorem dX7_cancel_32 : decode cX7_cancel 32 = .ok (.ifCond .le 5, 3) := by decide +kernel
theorem dX7_cancel_35 : decode cX7_cancel 35 = .ok (.iconst 0, 1) := by decide +kernel
theorem dX7_cancel_36 : decode cX7_cancel 36 = .ok (.ireturn, 1) := by decide +kernel
theorem dX7_cancel_37 : decode cX7_cancel 37 = .ok (.aload_n 0, 1) := by decide +kernel
theorem dX7_cancel_38 : decode cX7_cancel 38 = .ok (.getfield 73, 3) := by decide +kernel
theorem dX7_cancel_41 : decode cX7_cancel 41 = .ok (.iload_n 1, 1) := by decide +kernel
theorem dX7_cancel_42 : decode cX7_cancel 42 = .ok (.iconst 1, 1) := by decide +kernel
theorem dX7_cancel_43 : decode cX7_cancel 43 = .ok (.iastore, 1) := by decide +kernel
theorem dX7_cancel_44 : decode cX7_cancel 44 = .ok (.aload_n 0, 1) := by decide +kernel
theorem dX7_cancel_45 : decode cX7_cancel 45 = .ok (.getfield 76, 3) := by decide +kernel
theorem dX7_cancel_48 : decode cX7_cancel 48 = .ok (.iload_n 1, 1) := by decide +kernel
theorem dX7_cancel_49 : decode cX7_cancel 49 = .ok (.bipush 7, 2) := by decide +kernel
theorem dX7_cancel_51 : decode cX7_cancel 51 = .ok (.iastore, 1) := by decide +kernel
theorem dX7_cancel_52 : decode cX7_cancel 52 = .ok (.aload_n 0, 1) := by decide +kernel
theorem dX7_cancel_53 : decode cX7_cancel 53 = .ok (.iload_n 1, 1) := by decide +kernel
theorem dX7_cancel_54 : decode cX7_cancel 54 = .ok (.invokevirtual 203, 3) := by decide +kernel
theorem dX7_cancel_57 : decode cX7_cancel 57 = .ok (.ireturn, 1) := by decide +kernel
theorem dX7_replace_0 : decode cX7_replace 0 = .ok (.aload_n 0, 1) := by decide +kernel
theorem dX7_replace_1 : decode cX7_replace 1 = .ok (.iload_n 1, 1) := by decide +kernel
theorem dX7_replace_2 : decode cX7_replace 2 = .ok (.iconst 0, 1) := by decide +kernel
theorem dX7_replace_3 : decode cX7_replace 3 = .ok (.aload_n 0, 1) := by decide +kernel
theorem dX7_replace_4 : decode cX7_replace 4 = .ok (.getfield 144, 3) := by decide +kernel
theorem dX7_replace_7 : decode cX7_replace 7 = .ok (.iconst 1, 1) := by decide +kernel
theorem dX7_replace_8 : decode cX7_replace 8 = .ok (.isub, 1) := by decide +kernel
theorem dX7_replace_9 : decode cX7_replace 9 = .ok (.invokestatic 137, 3) := by decide +kernel
theorem dX7_replace_12 : decode cX7_replace 12 = .ok (.ifCond .eq 11, 3) := by decide +kernel
theorem dX7_replace_15 : decode cX7_replace 15 = .ok (.aload_n 0, 1) := by decide +kernel
theorem dX7_replace_16 : decode cX7_replace 16 = .ok (.iload_n 2, 1) := by decide +kernel
theorem dX7_replace_17 : decode cX7_replace 17 = .ok (.invokevirtual 154, 3) := by decide +kernel
theorem dX7_replace_20 : decode cX7_replace 20 = .ok (.ifCond .ne 7, 3) := by decide +kernel
theorem dX7_replace_23 : decode cX7_replace 23 = .ok (.iconst 1, 1) := by decide +kernel
theorem dX7_replace_24 : decode cX7_replace 24 = .ok (.goto 4, 3) := by decide +kernel
theorem dX7_replace_27 : decode cX7_replace 27 = .ok (.iconst 0, 1) := by decide +kernel
theorem dX7_replace_28 : decode cX7_replace 28 = .ok (.putfield 133, 3) := by decide +kernel
theorem dX7_replace_31 : decode cX7_replace 31 = .ok (.aload_n 0, 1) := by decide +kernel
theorem dX7_replace_32 : decode cX7_replace 32 = .ok (.getfield 133, 3) := by decide +kernel
theorem dX7_replace_35 : decode cX7_replace 35 = .ok (.ifCond .le 5, 3) := by decide +kernel
theorem dX7_replace_38 : decode cX7_replace 38 = .ok (.iconst 0, 1) := by decide +kernel
theorem dX7_replace_39 : decode cX7_replace 39 = .ok (.ireturn, 1) := by decide +kernel
theorem dX7_replace_40 : decode cX7_replace 40 = .ok (.aload_n 0, 1) := by decide +kernel
theorem dX7_replace_41 : decode cX7_replace 41 = .ok (.getfield 73, 3) := by decide +kernel
theorem dX7_replace_44 : decode cX7_replace 44 = .ok (.iload_n 1, 1) := by decide +kernel
theorem dX7_replace_45 : decode cX7_replace 45 = .ok (.iaload, 1) := by decide +kernel
theorem dX7_replace_46 : decode cX7_replace 46 = .ok (.iconst 1, 1) := by decide +kernel
theorem dX7_replace_47 : decode cX7_replace 47 = .ok (.if_icmp .ne 48, 3) := by decide +kernel
theorem dX7_replace_50 : decode cX7_replace 50 = .ok (.aload_n 0, 1) := by decide +kernel
theorem dX7_replace_51 : decode cX7_replace 51 = .ok (.getfield 79, 3) := by decide +kernel
theorem dX7_replace_54 : decode cX7_replace 54 = .ok (.iload_n 1, 1) := by decide +kernel
theorem dX7_replace_55 : decode cX7_replace 55 = .ok (.iaload, 1) := by decide +kernel
theorem dX7_replace_56 : decode cX7_replace 56 = .ok (.ifCond .ne 39, 3) := by decide +kernel
theorem dX7_replace_59 : decode cX7_replace 59 = .ok (.aload_n 0, 1) := by decide +kernel
theorem dX7_replace_60 : decode cX7_replace 60 = .ok (.iconst 2, 1) := by decide +kernel
theorem dX7_replace_61 : decode cX7_replace 61 = .ok (.iload_n 2, 1) := by decide +kernel
theorem dX7_replace_62 : decode cX7_replace 62 = .ok (.iadd, 1) := by decide +kernel
theorem dX7_replace_63 : decode cX7_replace 63 = .ok (.aload_n 0, 1) := by decide +kernel
theorem dX7_replace_64 : decode cX7_replace 64 = .ok (.getfield 180, 3) := by decide +kernel
theorem dX7_replace_67 : decode cX7_replace 67 = .ok (.invokevirtual 206, 3) := by decide +kernel
theorem dX7_replace_70 : decode cX7_replace 70 = .ok (.ifCond .ne 25, 3) := by decide +kernel
theorem dX7_replace_73 : decode cX7_replace 73 = .ok (.aload_n 0, 1) := by decide +kernel
theorem dX7_replace_74 : decode cX7_replace 74 = .ok (.iload_n 2, 1) := by decide +kernel
theorem dX7_replace_75 : decode cX7_replace 75 = .ok (.aload_n 0, 1) := by decide +kernel
theorem dX7_replace_76 : decode cX7_replace 76 = .ok (.getfield 180, 3) := by decide +kernel
theorem dX7_replace_79 : decode cX7_replace 79 = .ok (.invokevirtual 183, 3) := by decide +kernel
theorem dX7_replace_82 : decode cX7_replace 82 = .ok (.aload_n 0, 1) := by decide +kernel
theorem dX7_replace_83 : decode cX7_replace 83 = .ok (.getfield 61, 3) := by decide +kernel
theorem dX7_replace_86 : decode cX7_replace 86 = .ok (.iload_n 1, 1) := by decide +kernel
theorem dX7_replace_87 : decode cX7_replace 87 = .ok (.iaload, 1) := by decide +kernel
theorem dX7_replace_88 : decode cX7_replace 88 = .ok (.if_icmp .ne 7, 3) := by decide +kernel
theorem dX7_replace_91 : decode cX7_replace 91 = .ok (.iconst 1, 1) := by decide +kernel
theorem dX7_replace_92 : decode cX7_replace 92 = .ok (.goto 4, 3) := by decide +kernel
theorem dX7_replace_95 : decode cX7_replace 95 = .ok (.iconst 0, 1) := by decide +kernel
theorem dX7_replace_96 : decode cX7_replace 96 = .ok (.istore_n 3, 1) := by decide +kernel
theorem dX7_replace_97 : decode cX7_replace 97 = .ok (.iconst 0, 1) := by decide +kernel
theorem dX7_replace_98 : decode cX7_replace 98 = .ok (.istore 4, 2) := by decide +kernel
theorem dX7_replace_100 : decode cX7_replace 100 = .ok (.iload 4, 2) := by decide +kernel
theorem dX7_replace_102 : decode cX7_replace 102 = .ok (.aload_n 0, 1) := by decide +kernel
theorem dX7_replace_103 : decode cX7_replace 103 = .ok (.getfield 144, 3) := by decide +kernel
theorem dX7_replace_106 : decode cX7_replace 106 = .ok (.if_icmp .ge 65, 3) := by decide +kernel
theorem dX7_replace_109 : decode cX7_replace 109 = .ok (.iload_n 3, 1) := by decide +kernel
theorem dX7_replace_110 : decode cX7_replace 110 = .ok (.ifCond .eq 53, 3) := by decide +kernel
theorem dX7_replace_113 : decode cX7_replace 113 = .ok (.aload_n 0, 1) := by decide +kernel
theorem dX7_replace_114 : decode cX7_replace 114 = .ok (.getfield 58, 3) := by decide +kernel
theorem dX7_replace_117 : decode cX7_replace 117 = .ok (.iload 4, 2) := by decide +kernel
theorem dX7_replace_119 : decode cX7_replace 119 = .ok (.iaload, 1) := by decide +kernel
theorem dX7_replace_120 : decode cX7_replace 120 = .ok (.iload_n 2, 1) := by decide +kernel
theorem dX7_replace_121 : decode cX7_replace 121 = .ok (.if_icmp .ne 38, 3) := by decide +kernel
theorem dX7_replace_124 : decode cX7_replace 124 = .ok (.aload_n 0, 1) := by decide +kernel
theorem dX7_replace_125 : decode cX7_replace 125 = .ok (.getfield 73, 3) := by decide +kernel
theorem dX7_replace_128 : decode cX7_replace 128 = .ok (.iload 4, 2) := by decide +kernel
theorem dX7_replace_130 : decode cX7_replace 130 = .ok (.iaload, 1) := by decide +kernel
theorem dX7_replace_131 : decode cX7_replace 131 = .ok (.iconst 1, 1) := by decide +kernel
theorem dX7_replace_132 : decode cX7_replace 132 = .ok (.if_icmp .eq 27, 3) := by decide +kernel
theorem dX7_replace_135 : decode cX7_replace 135 = .ok (.aload_n 0, 1) := by decide +kernel
theorem dX7_replace_136 : decode cX7_replace 136 = .ok (.getfield 73, 3) := by decide +kernel
theorem dX7_replace_139 : decode cX7_replace 139 = .ok (.iload 4, 2) := by decide +kernel
theorem dX7_replace_141 : decode cX7_replace 141 = .ok (.iaload, 1) := by decide +kernel
theorem dX7_replace_142 : decode cX7_replace 142 = .ok (.iconst 2, 1) := by decide +kernel
theorem dX7_replace_143 : decode cX7_replace 143 = .ok (.if_icmp .ne 20, 3) := by decide +kernel
theorem dX7_replace_146 : decode cX7_replace 146 = .ok (.aload_n 0, 1) := by decide +kernel
theorem dX7_replace_147 : decode cX7_replace 147 = .ok (.iload 4, 2) := by decide +kernel
theorem dX7_replace_149 : decode cX7_replace 149 = .ok (.invokevirtual 174, 3) := by decide +kernel
theorem dX7_replace_152 : decode cX7_replace 152 = .ok (.aload_n 0, 1) := by decide +kernel
theorem dX7_replace_153 : decode cX7_replace 153 = .ok (.getfield 180, 3) := by decide +kernel
theorem dX7_replace_156 : decode cX7_replace 156 = .ok (.if_icmp .gt 7, 3) := by decide +kernel
theorem dX7_replace_159 : decode cX7_replace 159 = .ok (.iconst 1, 1) := by decide +kernel
theorem dX7_replace_160 : decode cX7_replace 160 = .ok (.goto 4, 3) := by decide +kernel
theorem dX7_replace_163 : decode cX7_replace 163 = .ok (.iconst 0, 1) := by decide +kernel
theorem dX7_replace_164 : decode cX7_replace 164 = .ok (.istore_n 3, 1) := by decide +kernel
theorem dX7_replace_165 : decode cX7_replace 165 = .ok (.iinc 4 1, 3) := by decide +kernel
theorem dX7_replace_168 : decode cX7_replace 168 = .ok (.goto (-68), 3) := by decide +kernel
theorem dX7_replace_171 : decode cX7_replace 171 = .ok (.aload_n 0, 1) := by decide +kernel
theorem dX7_replace_172 : decode cX7_replace 172 = .ok (.iload_n 3, 1) := by decide +kernel
theorem dX7_replace_173 : decode cX7_replace 173 = .ok (.ifCond .eq 16, 3) := by decide +kernel
theorem dX7_replace_176 : decode cX7_replace 176 = .ok (.aload_n 0, 1) := by decide +kernel
theorem dX7_replace_177 : decode cX7_replace 177 = .ok (.getfield 144, 3) := by decide +kernel
theorem dX7_replace_180 : decode cX7_replace 180 = .ok (.bipush 24, 2) := by decide +kernel
theorem dX7_replace_182 : decode cX7_replace 182 = .ok (.if_icmp .ge 7, 3) := by decide +kernel
theorem dX7_replace_185 : decode cX7_replace 185 = .ok (.iconst 0, 1) := by decide +kernel
theorem dX7_replace_186 : decode cX7_replace 186 = .ok (.goto 4, 3) := by decide +kernel
theorem dX7_replace_189 : decode cX7_replace 189 = .ok (.iconst 2, 1) := by decide +kernel
theorem dX7_replace_190 : decode cX7_replace 190 = .ok (.putfield 133, 3) := by decide +kernel
theorem dX7_replace_193 : decode cX7_replace 193 = .ok (.aload_n 0, 1) := by decide +kernel
theorem dX7_replace_194 : decode cX7_replace 194 = .ok (.getfield 133, 3) := by decide +kernel
theorem dX7_replace_197 : decode cX7_replace 197 = .ok (.ifCond .le 5, 3) := by decide +kernel
theorem dX7_replace_200 : decode cX7_replace 200 = .ok (.iconst 0, 1) := by decide +kernel
theorem dX7_replace_201 : decode cX7_replace 201 = .ok (.ireturn, 1) := by decide +kernel
theorem dX7_replace_202 : decode cX7_replace 202 = .ok (.aload_n 0, 1) := by decide +kernel
theorem dX7_replace_203 : decode cX7_replace 203 = .ok (.getfield 79, 3) := by decide +kernel
theorem dX7_replace_206 : decode cX7_replace 206 = .ok (.iload_n 1, 1) := by decide +kernel
theorem dX7_replace_207 : decode cX7_replace 207 = .ok (.iconst 1, 1) := by decide +kernel
theorem dX7_replace_208 : decode cX7_replace 208 = .ok (.iastore, 1) := by decide +kernel
theorem dX7_replace_209 : decode cX7_replace 209 = .ok (.aload_n 0, 1) := by decide +kernel
theorem dX7_replace_210 : decode cX7_replace 210 = .ok (.iload_n 2, 1) := by decide +kernel
theorem dX7_replace_211 : decode cX7_replace 211 = .ok (.aload_n 0, 1) := by decide +kernel
theorem dX7_replace_212 : decode cX7_replace 212 = .ok (.getfield 61, 3) := by decide +kernel
theorem dX7_replace_215 : decode cX7_replace 215 = .ok (.iload_n 1, 1) := by decide +kernel
theorem dX7_replace_216 : decode cX7_replace 216 = .ok (.iaload, 1) := by decide +kernel
theorem dX7_replace_217 : decode cX7_replace 217 = .ok (.aload_n 0, 1) := by decide +kernel
theorem dX7_replace_218 : decode cX7_replace 218 = .ok (.getfield 64, 3) := by decide +kernel
theorem dX7_replace_221 : decode cX7_replace 221 = .ok (.iload_n 1, 1) := by decide +kernel
theorem dX7_replace_222 : decode cX7_replace 222 = .ok (.iaload, 1) := by decide +kernel
theorem dX7_replace_223 : decode cX7_replace 223 = .ok (.aload_n 0, 1) := by decide +kernel
theorem dX7_replace_224 : decode cX7_replace 224 = .ok (.getfield 180, 3) := by decide +kernel
theorem dX7_replace_227 : decode cX7_replace 227 = .ok (.aload_n 0, 1) := by decide +kernel
theorem dX7_replace_228 : decode cX7_replace 228 = .ok (.getfield 70, 3) := by decide +kernel
theorem dX7_replace_231 : decode cX7_replace 231 = .ok (.iload_n 1, 1) := by decide +kernel
theorem dX7_replace_232 : decode cX7_replace 232 = .ok (.iaload, 1) := by decide +kernel
theorem dX7_replace_233 : decode cX7_replace 233 = .ok (.invokevirtual 186, 3) := by decide +kernel
theorem dX7_replace_236 : decode cX7_replace 236 = .ok (.ireturn, 1) := by decide +kernel
theorem dX7_crewFor_0 : decode cX7_crewFor 0 = .ok (.aload_n 0, 1) := by decide +kernel
theorem dX7_crewFor_1 : decode cX7_crewFor 1 = .ok (.getfield 67, 3) := by decide +kernel
theorem dX7_crewFor_4 : decode cX7_crewFor 4 = .ok (.iload_n 1, 1) := by decide +kernel
theorem dX7_crewFor_5 : decode cX7_crewFor 5 = .ok (.iaload, 1) := by decide +kernel
theorem dX7_crewFor_6 : decode cX7_crewFor 6 = .ok (.bipush 24, 2) := by decide +kernel
theorem dX7_crewFor_8 : decode cX7_crewFor 8 = .ok (.idiv, 1) := by decide +kernel
theorem dX7_crewFor_9 : decode cX7_crewFor 9 = .ok (.istore_n 2, 1) := by decide +kernel
theorem dX7_crewFor_10 : decode cX7_crewFor 10 = .ok (.iconst 0, 1) := by decide +kernel
theorem dX7_crewFor_11 : decode cX7_crewFor 11 = .ok (.istore_n 3, 1) := by decide +kernel
theorem dX7_crewFor_12 : decode cX7_crewFor 12 = .ok (.iload_n 3, 1) := by decide +kernel
theorem dX7_crewFor_13 : decode cX7_crewFor 13 = .ok (.aload_n 0, 1) := by decide +kernel
theorem dX7_crewFor_14 : decode cX7_crewFor 14 = .ok (.getfield 163, 3) := by decide +kernel
theorem dX7_crewFor_17 : decode cX7_crewFor 17 = .ok (.if_icmp .ge 80, 3) := by decide +kernel
theorem dX7_crewFor_20 : decode cX7_crewFor 20 = .ok (.aload_n 0, 1) := by decide +kernel
theorem dX7_crewFor_21 : decode cX7_crewFor 21 = .ok (.getfield 31, 3) := by decide +kernel
theorem dX7_crewFor_24 : decode cX7_crewFor 24 = .ok (.iload_n 3, 1) := by decide +kernel
theorem dX7_crewFor_25 : decode cX7_crewFor 25 = .ok (.iaload, 1) := by decide +kernel
theorem dX7_crewFor_26 : decode cX7_crewFor 26 = .ok (.aload_n 0, 1) := by decide +kernel
theorem dX7_crewFor_27 : decode cX7_crewFor 27 = .ok (.getfield 58, 3) := by decide +kernel
theorem dX7_crewFor_30 : decode cX7_crewFor 30 = .ok (.iload_n 1, 1) := by decide +kernel
theorem dX7_crewFor_31 : decode cX7_crewFor 31 = .ok (.iaload, 1) := by decide +kernel
theorem dX7_crewFor_32 : decode cX7_crewFor 32 = .ok (.if_icmp .ne 26, 3) := by decide +kernel
theorem dX7_crewFor_35 : decode cX7_crewFor 35 = .ok (.iload_n 2, 1) := by decide +kernel
theorem dX7_crewFor_36 : decode cX7_crewFor 36 = .ok (.aload_n 0, 1) := by decide +kernel
theorem dX7_crewFor_37 : decode cX7_crewFor 37 = .ok (.getfield 34, 3) := by decide +kernel
theorem dX7_crewFor_40 : decode cX7_crewFor 40 = .ok (.iload_n 3, 1) := by decide +kernel
theorem dX7_crewFor_41 : decode cX7_crewFor 41 = .ok (.iaload, 1) := by decide +kernel
theorem dX7_crewFor_42 : decode cX7_crewFor 42 = .ok (.aload_n 0, 1) := by decide +kernel
theorem dX7_crewFor_43 : decode cX7_crewFor 43 = .ok (.getfield 37, 3) := by decide +kernel
theorem dX7_crewFor_46 : decode cX7_crewFor 46 = .ok (.iload_n 3, 1) := by decide +kernel
theorem dX7_crewFor_47 : decode cX7_crewFor 47 = .ok (.iaload, 1) := by decide +kernel
theorem dX7_crewFor_48 : decode cX7_crewFor 48 = .ok (.invokestatic 137, 3) := by decide +kernel
theorem dX7_crewFor_51 : decode cX7_crewFor 51 = .ok (.ifCond .eq 7, 3) := by decide +kernel
theorem dX7_crewFor_54 : decode cX7_crewFor 54 = .ok (.iconst 1, 1) := by decide +kernel
theorem dX7_crewFor_55 : decode cX7_crewFor 55 = .ok (.goto 4, 3) := by decide +kernel
theorem dX7_crewFor_58 : decode cX7_crewFor 58 = .ok (.iconst 0, 1) := by decide +kernel
theorem dX7_crewFor_59 : decode cX7_crewFor 59 = .ok (.istore 4, 2) := by decide +kernel
theorem dX7_crewFor_61 : decode cX7_crewFor 61 = .ok (.iload 4, 2) := by decide +kernel
theorem dX7_crewFor_63 : decode cX7_crewFor 63 = .ok (.ifCond .eq 28, 3) := by decide +kernel
theorem dX7_crewFor_66 : decode cX7_crewFor 66 = .ok (.aload_n 0, 1) := by decide +kernel
theorem dX7_crewFor_67 : decode cX7_crewFor 67 = .ok (.getfield 40, 3) := by decide +kernel
theorem dX7_crewFor_70 : decode cX7_crewFor 70 = .ok (.sipush 501, 3) := by decide +kernel
theorem dX7_crewFor_73 : decode cX7_crewFor 73 = .ok (.iload_n 3, 1) := by decide +kernel
theorem dX7_crewFor_74 : decode cX7_crewFor 74 = .ok (.imul, 1) := by decide +kernel
theorem dX7_crewFor_75 : decode cX7_crewFor 75 = .ok (.iload_n 2, 1) := by decide +kernel
theorem dX7_crewFor_76 : decode cX7_crewFor 76 = .ok (.iadd, 1) := by decide +kernel
theorem dX7_crewFor_77 : decode cX7_crewFor 77 = .ok (.iaload, 1) := by decide +kernel
theorem dX7_crewFor_78 : decode cX7_crewFor 78 = .ok (.aload_n 0, 1) := by decide +kernel
theorem dX7_crewFor_79 : decode cX7_crewFor 79 = .ok (.iload_n 1, 1) := by decide +kernel
theorem dX7_crewFor_80 : decode cX7_crewFor 80 = .ok (.invokevirtual 170, 3) := by decide +kernel
theorem dX7_crewFor_83 : decode cX7_crewFor 83 = .ok (.iadd, 1) := by decide +kernel
theorem dX7_crewFor_84 : decode cX7_crewFor 84 = .ok (.bipush 12, 2) := by decide +kernel
theorem dX7_crewFor_86 : decode cX7_crewFor 86 = .ok (.if_icmp .gt 5, 3) := by decide +kernel
theorem dX7_crewFor_89 : decode cX7_crewFor 89 = .ok (.iload_n 3, 1) := by decide +kernel
theorem dX7_crewFor_90 : decode cX7_crewFor 90 = .ok (.ireturn, 1) := by decide +kernel
theorem dX7_crewFor_91 : decode cX7_crewFor 91 = .ok (.iinc 3 1, 3) := by decide +kernel
theorem dX7_crewFor_94 : decode cX7_crewFor 94 = .ok (.goto (-82), 3) := by decide +kernel
theorem dX7_crewFor_97 : decode cX7_crewFor 97 = .ok (.iconst (-1), 1) := by decide +kernel
theorem dX7_crewFor_98 : decode cX7_crewFor 98 = .ok (.ireturn, 1) := by decide +kernel
theorem dX7_burns_0 : decode cX7_burns 0 = .ok (.aload_n 0, 1) := by decide +kernel
theorem dX7_burns_1 : decode cX7_burns 1 = .ok (.getfield 25, 3) := by decide +kernel
theorem dX7_burns_4 : decode cX7_burns 4 = .ok (.aload_n 0, 1) := by decide +kernel
theorem dX7_burns_5 : decode cX7_burns 5 = .ok (.getfield 58, 3) := by decide +kernel
theorem dX7_burns_8 : decode cX7_burns 8 = .ok (.iload_n 1, 1) := by decide +kernel
theorem dX7_burns_9 : decode cX7_burns 9 = .ok (.iaload, 1) := by decide +kernel
theorem dX7_burns_10 : decode cX7_burns 10 = .ok (.iaload, 1) := by decide +kernel
theorem dX7_burns_11 : decode cX7_burns 11 = .ok (.istore_n 2, 1) := by decide +kernel
theorem dX7_burns_12 : decode cX7_burns 12 = .ok (.aload_n 0, 1) := by decide +kernel
theorem dX7_burns_13 : decode cX7_burns 13 = .ok (.iload_n 1, 1) := by decide +kernel
theorem dX7_burns_14 : decode cX7_burns 14 = .ok (.invokevirtual 170, 3) := by decide +kernel
theorem dX7_burns_17 : decode cX7_burns 17 = .ok (.iload_n 2, 1) := by decide +kernel
theorem dX7_burns_18 : decode cX7_burns 18 = .ok (.imul, 1) := by decide +kernel
theorem dX7_burns_19 : decode cX7_burns 19 = .ok (.iload_n 2, 1) := by decide +kernel
theorem dX7_burns_20 : decode cX7_burns 20 = .ok (.imul, 1) := by decide +kernel
theorem dX7_burns_21 : decode cX7_burns 21 = .ok (.bipush 100, 2) := by decide +kernel
theorem dX7_burns_23 : decode cX7_burns 23 = .ok (.idiv, 1) := by decide +kernel
theorem dX7_burns_24 : decode cX7_burns 24 = .ok (.ireturn, 1) := by decide +kernel
theorem dX7_reasonFor_0 : decode cX7_reasonFor 0 = .ok (.aload_n 0, 1) := by decide +kernel
theorem dX7_reasonFor_1 : decode cX7_reasonFor 1 = .ok (.getfield 58, 3) := by decide +kernel
theorem dX7_reasonFor_4 : decode cX7_reasonFor 4 = .ok (.iload_n 1, 1) := by decide +kernel
theorem dX7_reasonFor_5 : decode cX7_reasonFor 5 = .ok (.iaload, 1) := by decide +kernel
theorem dX7_reasonFor_6 : decode cX7_reasonFor 6 = .ok (.istore_n 2, 1) := by decide +kernel
theorem dX7_reasonFor_7 : decode cX7_reasonFor 7 = .ok (.aload_n 0, 1) := by decide +kernel
theorem dX7_reasonFor_8 : decode cX7_reasonFor 8 = .ok (.getfield 67, 3) := by decide +kernel
theorem dX7_reasonFor_11 : decode cX7_reasonFor 11 = .ok (.iload_n 1, 1) := by decide +kernel
theorem dX7_reasonFor_12 : decode cX7_reasonFor 12 = .ok (.iaload, 1) := by decide +kernel
theorem dX7_reasonFor_13 : decode cX7_reasonFor 13 = .ok (.istore_n 3, 1) := by decide +kernel
theorem dX7_reasonFor_14 : decode cX7_reasonFor 14 = .ok (.aload_n 0, 1) := by decide +kernel
theorem dX7_reasonFor_15 : decode cX7_reasonFor 15 = .ok (.iload_n 2, 1) := by decide +kernel
theorem dX7_reasonFor_16 : decode cX7_reasonFor 16 = .ok (.iload_n 3, 1) := by decide +kernel
theorem dX7_reasonFor_17 : decode cX7_reasonFor 17 = .ok (.invokevirtual 183, 3) := by decide +kernel
theorem dX7_reasonFor_20 : decode cX7_reasonFor 20 = .ok (.aload_n 0, 1) := by decide +kernel
theorem dX7_reasonFor_21 : decode cX7_reasonFor 21 = .ok (.getfield 61, 3) := by decide +kernel
theorem dX7_reasonFor_24 : decode cX7_reasonFor 24 = .ok (.iload_n 1, 1) := by decide +kernel
theorem dX7_reasonFor_25 : decode cX7_reasonFor 25 = .ok (.iaload, 1) := by decide +kernel
theorem dX7_reasonFor_26 : decode cX7_reasonFor 26 = .ok (.if_icmp .ne 14, 3) := by decide +kernel
theorem dX7_reasonFor_29 : decode cX7_reasonFor 29 = .ok (.aload_n 0, 1) := by decide +kernel
theorem dX7_reasonFor_30 : decode cX7_reasonFor 30 = .ok (.iconst 2, 1) := by decide +kernel
theorem dX7_reasonFor_31 : decode cX7_reasonFor 31 = .ok (.iload_n 2, 1) := by decide +kernel
theorem dX7_reasonFor_32 : decode cX7_reasonFor 32 = .ok (.iadd, 1) := by decide +kernel
theorem dX7_reasonFor_33 : decode cX7_reasonFor 33 = .ok (.iload_n 3, 1) := by decide +kernel
theorem dX7_reasonFor_34 : decode cX7_reasonFor 34 = .ok (.invokevirtual 206, 3) := by decide +kernel
theorem dX7_reasonFor_37 : decode cX7_reasonFor 37 = .ok (.ifCond .eq 5, 3) := by decide +kernel
theorem dX7_reasonFor_40 : decode cX7_reasonFor 40 = .ok (.iconst 1, 1) := by decide +kernel
theorem dX7_reasonFor_41 : decode cX7_reasonFor 41 = .ok (.ireturn, 1) := by decide +kernel
theorem dX7_reasonFor_42 : decode cX7_reasonFor 42 = .ok (.aload_n 0, 1) := by decide +kernel
theorem dX7_reasonFor_43 : decode cX7_reasonFor 43 = .ok (.getfield 61, 3) := by decide +kernel
theorem dX7_reasonFor_46 : decode cX7_reasonFor 46 = .ok (.iload_n 1, 1) := by decide +kernel
theorem dX7_reasonFor_47 : decode cX7_reasonFor 47 = .ok (.iaload, 1) := by decide +kernel
theorem dX7_reasonFor_48 : decode cX7_reasonFor 48 = .ok (.iload_n 3, 1) := by decide +kernel
theorem dX7_reasonFor_49 : decode cX7_reasonFor 49 = .ok (.invokestatic 166, 3) := by decide +kernel
theorem dX7_reasonFor_52 : decode cX7_reasonFor 52 = .ok (.aload_n 0, 1) := by decide +kernel
theorem dX7_reasonFor_53 : decode cX7_reasonFor 53 = .ok (.getfield 22, 3) := by decide +kernel
theorem dX7_reasonFor_56 : decode cX7_reasonFor 56 = .ok (.iload_n 2, 1) := by decide +kernel
theorem dX7_reasonFor_57 : decode cX7_reasonFor 57 = .ok (.iaload, 1) := by decide +kernel
theorem dX7_reasonFor_58 : decode cX7_reasonFor 58 = .ok (.if_icmp .lt 26, 3) := by decide +kernel
theorem dX7_reasonFor_61 : decode cX7_reasonFor 61 = .ok (.aload_n 0, 1) := by decide +kernel
theorem dX7_reasonFor_62 : decode cX7_reasonFor 62 = .ok (.getfield 64, 3) := by decide +kernel
theorem dX7_reasonFor_65 : decode cX7_reasonFor 65 = .ok (.iload_n 1, 1) := by decide +kernel
theorem dX7_reasonFor_66 : decode cX7_reasonFor 66 = .ok (.iaload, 1) := by decide +kernel
theorem dX7_reasonFor_67 : decode cX7_reasonFor 67 = .ok (.aload_n 0, 1) := by decide +kernel
theorem dX7_reasonFor_68 : decode cX7_reasonFor 68 = .ok (.iload_n 1, 1) := by decide +kernel
theorem dX7_reasonFor_69 : decode cX7_reasonFor 69 = .ok (.invokevirtual 174, 3) := by decide +kernel
theorem dX7_reasonFor_72 : decode cX7_reasonFor 72 = .ok (.invokestatic 166, 3) := by decide +kernel
theorem dX7_reasonFor_75 : decode cX7_reasonFor 75 = .ok (.aload_n 0, 1) := by decide +kernel
theorem dX7_reasonFor_76 : decode cX7_reasonFor 76 = .ok (.getfield 22, 3) := by decide +kernel
theorem dX7_reasonFor_79 : decode cX7_reasonFor 79 = .ok (.iload_n 2, 1) := by decide +kernel
theorem dX7_reasonFor_80 : decode cX7_reasonFor 80 = .ok (.iaload, 1) := by decide +kernel
theorem dX7_reasonFor_81 : decode cX7_reasonFor 81 = .ok (.if_icmp .ge 5, 3) := by decide +kernel
theorem dX7_reasonFor_84 : decode cX7_reasonFor 84 = .ok (.iconst 2, 1) := by decide +kernel
theorem dX7_reasonFor_85 : decode cX7_reasonFor 85 = .ok (.ireturn, 1) := by decide +kernel
theorem dX7_reasonFor_86 : decode cX7_reasonFor 86 = .ok (.aload_n 0, 1) := by decide +kernel
theorem dX7_reasonFor_87 : decode cX7_reasonFor 87 = .ok (.iconst 0, 1) := by decide +kernel
theorem dX7_reasonFor_88 : decode cX7_reasonFor 88 = .ok (.iload_n 3, 1) := by decide +kernel
theorem dX7_reasonFor_89 : decode cX7_reasonFor 89 = .ok (.invokevirtual 206, 3) := by decide +kernel
theorem dX7_reasonFor_92 : decode cX7_reasonFor 92 = .ok (.ifCond .eq 5, 3) := by decide +kernel
theorem dX7_reasonFor_95 : decode cX7_reasonFor 95 = .ok (.iconst 3, 1) := by decide +kernel
theorem dX7_reasonFor_96 : decode cX7_reasonFor 96 = .ok (.ireturn, 1) := by decide +kernel
theorem dX7_reasonFor_97 : decode cX7_reasonFor 97 = .ok (.aload_n 0, 1) := by decide +kernel
theorem dX7_reasonFor_98 : decode cX7_reasonFor 98 = .ok (.iconst 1, 1) := by decide +kernel
theorem dX7_reasonFor_99 : decode cX7_reasonFor 99 = .ok (.iload_n 3, 1) := by decide +kernel
theorem dX7_reasonFor_100 : decode cX7_reasonFor 100 = .ok (.invokevirtual 206, 3) := by decide +kernel
theorem dX7_reasonFor_103 : decode cX7_reasonFor 103 = .ok (.ifCond .eq 12, 3) := by decide +kernel
theorem dX7_reasonFor_106 : decode cX7_reasonFor 106 = .ok (.iload_n 1, 1) := by decide +kernel
theorem dX7_reasonFor_107 : decode cX7_reasonFor 107 = .ok (.iconst 2, 1) := by decide +kernel
theorem dX7_reasonFor_108 : decode cX7_reasonFor 108 = .ok (.irem, 1) := by decide +kernel
theorem dX7_reasonFor_109 : decode cX7_reasonFor 109 = .ok (.iconst 1, 1) := by decide +kernel
theorem dX7_reasonFor_110 : decode cX7_reasonFor 110 = .ok (.if_icmp .ne 5, 3) := by decide +kernel
theorem dX7_reasonFor_113 : decode cX7_reasonFor 113 = .ok (.iconst 4, 1) := by decide +kernel
theorem dX7_reasonFor_114 : decode cX7_reasonFor 114 = .ok (.ireturn, 1) := by decide +kernel
theorem dX7_reasonFor_115 : decode cX7_reasonFor 115 = .ok (.aload_n 0, 1) := by decide +kernel
theorem dX7_reasonFor_116 : decode cX7_reasonFor 116 = .ok (.iload_n 1, 1) := by decide +kernel
theorem dX7_reasonFor_117 : decode cX7_reasonFor 117 = .ok (.invokevirtual 210, 3) := by decide +kernel
theorem dX7_reasonFor_120 : decode cX7_reasonFor 120 = .ok (.iconst (-1), 1) := by decide +kernel
theorem dX7_reasonFor_121 : decode cX7_reasonFor 121 = .ok (.if_icmp .ne 7, 3) := by decide +kernel
theorem dX7_reasonFor_124 : decode cX7_reasonFor 124 = .ok (.iconst 5, 1) := by decide +kernel
theorem dX7_reasonFor_125 : decode cX7_reasonFor 125 = .ok (.goto 23, 3) := by decide +kernel
theorem dX7_reasonFor_128 : decode cX7_reasonFor 128 = .ok (.aload_n 0, 1) := by decide +kernel
theorem dX7_reasonFor_129 : decode cX7_reasonFor 129 = .ok (.getfield 28, 3) := by decide +kernel
theorem dX7_reasonFor_132 : decode cX7_reasonFor 132 = .ok (.iload_n 2, 1) := by decide +kernel
theorem dX7_reasonFor_133 : decode cX7_reasonFor 133 = .ok (.iaload, 1) := by decide +kernel
theorem dX7_reasonFor_134 : decode cX7_reasonFor 134 = .ok (.aload_n 0, 1) := by decide +kernel
theorem dX7_reasonFor_135 : decode cX7_reasonFor 135 = .ok (.iload_n 1, 1) := by decide +kernel
theorem dX7_reasonFor_136 : decode cX7_reasonFor 136 = .ok (.invokevirtual 213, 3) := by decide +kernel
theorem dX7_reasonFor_139 : decode cX7_reasonFor 139 = .ok (.if_icmp .ge 8, 3) := by decide +kernel
theorem dX7_reasonFor_142 : decode cX7_reasonFor 142 = .ok (.bipush 6, 2) := by decide +kernel
theorem dX7_reasonFor_144 : decode cX7_reasonFor 144 = .ok (.goto 4, 3) := by decide +kernel
theorem dX7_reasonFor_147 : decode cX7_reasonFor 147 = .ok (.iconst 0, 1) := by decide +kernel
theorem dX7_reasonFor_148 : decode cX7_reasonFor 148 = .ok (.ireturn, 1) := by decide +kernel
theorem dX7_sideOf_0 : decode cX7_sideOf 0 = .ok (.aload_n 0, 1) := by decide +kernel
theorem dX7_sideOf_1 : decode cX7_sideOf 1 = .ok (.getfield 13, 3) := by decide +kernel
theorem dX7_sideOf_4 : decode cX7_sideOf 4 = .ok (.aload_n 0, 1) := by decide +kernel
theorem dX7_sideOf_5 : decode cX7_sideOf 5 = .ok (.getfield 58, 3) := by decide +kernel
theorem dX7_sideOf_8 : decode cX7_sideOf 8 = .ok (.iload_n 1, 1) := by decide +kernel
theorem dX7_sideOf_9 : decode cX7_sideOf 9 = .ok (.iaload, 1) := by decide +kernel
theorem dX7_sideOf_10 : decode cX7_sideOf 10 = .ok (.iaload, 1) := by decide +kernel
theorem dX7_sideOf_11 : decode cX7_sideOf 11 = .ok (.istore_n 3, 1) := by decide +kernel
theorem dX7_sideOf_12 : decode cX7_sideOf 12 = .ok (.iconst 2, 1) := by decide +kernel
theorem dX7_sideOf_13 : decode cX7_sideOf 13 = .ok (.iload_n 2, 1) := by decide +kernel
theorem dX7_sideOf_14 : decode cX7_sideOf 14 = .ok (.imul, 1) := by decide +kernel
theorem dX7_sideOf_15 : decode cX7_sideOf 15 = .ok (.iload_n 3, 1) := by decide +kernel
theorem dX7_sideOf_16 : decode cX7_sideOf 16 = .ok (.iconst 1, 1) := by decide +kernel
theorem dX7_sideOf_17 : decode cX7_sideOf 17 = .ok (.isub, 1) := by decide +kernel
theorem dX7_sideOf_18 : decode cX7_sideOf 18 = .ok (.if_icmp .ge 7, 3) := by decide +kernel
theorem dX7_sideOf_21 : decode cX7_sideOf 21 = .ok (.iconst 1, 1) := by decide +kernel
theorem dX7_sideOf_22 : decode cX7_sideOf 22 = .ok (.goto 17, 3) := by decide +kernel
theorem dX7_sideOf_25 : decode cX7_sideOf 25 = .ok (.iconst 2, 1) := by decide +kernel
theorem dX7_sideOf_26 : decode cX7_sideOf 26 = .ok (.iload_n 2, 1) := by decide +kernel
theorem dX7_sideOf_27 : decode cX7_sideOf 27 = .ok (.imul, 1) := by decide +kernel
theorem dX7_sideOf_28 : decode cX7_sideOf 28 = .ok (.iload_n 3, 1) := by decide +kernel
theorem dX7_sideOf_29 : decode cX7_sideOf 29 = .ok (.iconst 1, 1) := by decide +kernel
theorem dX7_sideOf_30 : decode cX7_sideOf 30 = .ok (.isub, 1) := by decide +kernel
theorem dX7_sideOf_31 : decode cX7_sideOf 31 = .ok (.if_icmp .le 7, 3) := by decide +kernel
theorem dX7_sideOf_34 : decode cX7_sideOf 34 = .ok (.iconst 2, 1) := by decide +kernel
theorem dX7_sideOf_35 : decode cX7_sideOf 35 = .ok (.goto 4, 3) := by decide +kernel
theorem dX7_sideOf_38 : decode cX7_sideOf 38 = .ok (.iconst 0, 1) := by decide +kernel
theorem dX7_sideOf_39 : decode cX7_sideOf 39 = .ok (.ireturn, 1) := by decide +kernel
theorem dX7_difference_0 : decode cX7_difference 0 = .ok (.aload_n 0, 1) := by decide +kernel
theorem dX7_difference_1 : decode cX7_difference 1 = .ok (.iload_n 1, 1) := by decide +kernel
theorem dX7_difference_2 : decode cX7_difference 2 = .ok (.iload_n 2, 1) := by decide +kernel
theorem dX7_difference_3 : decode cX7_difference 3 = .ok (.invokevirtual 216, 3) := by decide +kernel
theorem dX7_difference_6 : decode cX7_difference 6 = .ok (.istore 4, 2) := by decide +kernel
theorem dX7_difference_8 : decode cX7_difference 8 = .ok (.aload_n 0, 1) := by decide +kernel
theorem dX7_difference_9 : decode cX7_difference 9 = .ok (.getfield 82, 3) := by decide +kernel
theorem dX7_difference_12 : decode cX7_difference 12 = .ok (.iload_n 1, 1) := by decide +kernel
theorem dX7_difference_13 : decode cX7_difference 13 = .ok (.iaload, 1) := by decide +kernel
theorem dX7_difference_14 : decode cX7_difference 14 = .ok (.aload_n 0, 1) := by decide +kernel
theorem dX7_difference_15 : decode cX7_difference 15 = .ok (.getfield 85, 3) := by decide +kernel
theorem dX7_difference_18 : decode cX7_difference 18 = .ok (.iload_n 1, 1) := by decide +kernel
theorem dX7_difference_19 : decode cX7_difference 19 = .ok (.iaload, 1) := by decide +kernel
theorem dX7_difference_20 : decode cX7_difference 20 = .ok (.isub, 1) := by decide +kernel
theorem dX7_difference_21 : decode cX7_difference 21 = .ok (.iload 4, 2) := by decide +kernel
theorem dX7_difference_23 : decode cX7_difference 23 = .ok (.iconst 1, 1) := by decide +kernel
theorem dX7_difference_24 : decode cX7_difference 24 = .ok (.if_icmp .ne 7, 3) := by decide +kernel
theorem dX7_difference_27 : decode cX7_difference 27 = .ok (.iload_n 3, 1) := by decide +kernel
theorem dX7_difference_28 : decode cX7_difference 28 = .ok (.goto 15, 3) := by decide +kernel
theorem dX7_difference_31 : decode cX7_difference 31 = .ok (.iload 4, 2) := by decide +kernel
theorem dX7_difference_33 : decode cX7_difference 33 = .ok (.iconst 2, 1) := by decide +kernel
theorem dX7_difference_34 : decode cX7_difference 34 = .ok (.if_icmp .ne 8, 3) := by decide +kernel
theorem dX7_difference_37 : decode cX7_difference 37 = .ok (.iload_n 3, 1) := by decide +kernel
theorem dX7_difference_38 : decode cX7_difference 38 = .ok (.ineg, 1) := by decide +kernel
theorem dX7_difference_39 : decode cX7_difference 39 = .ok (.goto 4, 3) := by decide +kernel
theorem dX7_difference_42 : decode cX7_difference 42 = .ok (.iconst 0, 1) := by decide +kernel
theorem dX7_difference_43 : decode cX7_difference 43 = .ok (.iadd, 1) := by decide +kernel
theorem dX7_difference_44 : decode cX7_difference 44 = .ok (.istore 5, 2) := by decide +kernel
theorem dX7_difference_46 : decode cX7_difference 46 = .ok (.iload 5, 2) := by decide +kernel
theorem dX7_difference_48 : decode cX7_difference 48 = .ok (.ifCond .ge 9, 3) := by decide +kernel
theorem dX7_difference_51 : decode cX7_difference 51 = .ok (.iload 5, 2) := by decide +kernel
theorem dX7_difference_53 : decode cX7_difference 53 = .ok (.ineg, 1) := by decide +kernel
theorem dX7_difference_54 : decode cX7_difference 54 = .ok (.goto 5, 3) := by decide +kernel
theorem dX7_difference_57 : decode cX7_difference 57 = .ok (.iload 5, 2) := by decide +kernel
theorem dX7_difference_59 : decode cX7_difference 59 = .ok (.ireturn, 1) := by decide +kernel
theorem dX7_fits_0 : decode cX7_fits 0 = .ok (.aload_n 0, 1) := by decide +kernel
theorem dX7_fits_1 : decode cX7_fits 1 = .ok (.getfield 124, 3) := by decide +kernel
theorem dX7_fits_4 : decode cX7_fits 4 = .ok (.iload_n 3, 1) := by decide +kernel
theorem dX7_fits_5 : decode cX7_fits 5 = .ok (.iaload, 1) := by decide +kernel
theorem dX7_fits_6 : decode cX7_fits 6 = .ok (.aload_n 0, 1) := by decide +kernel
theorem dX7_fits_7 : decode cX7_fits 7 = .ok (.getfield 97, 3) := by decide +kernel
theorem dX7_fits_10 : decode cX7_fits 10 = .ok (.iload_n 2, 1) := by decide +kernel
theorem dX7_fits_11 : decode cX7_fits 11 = .ok (.iaload, 1) := by decide +kernel
theorem dX7_fits_12 : decode cX7_fits 12 = .ok (.iadd, 1) := by decide +kernel
theorem dX7_fits_13 : decode cX7_fits 13 = .ok (.aload_n 0, 1) := by decide +kernel
theorem dX7_fits_14 : decode cX7_fits 14 = .ok (.getfield 16, 3) := by decide +kernel
theorem dX7_fits_17 : decode cX7_fits 17 = .ok (.aload_n 0, 1) := by decide +kernel
theorem dX7_fits_18 : decode cX7_fits 18 = .ok (.getfield 58, 3) := by decide +kernel
theorem dX7_fits_21 : decode cX7_fits 21 = .ok (.iload_n 1, 1) := by decide +kernel
theorem dX7_fits_22 : decode cX7_fits 22 = .ok (.iaload, 1) := by decide +kernel
theorem dX7_fits_23 : decode cX7_fits 23 = .ok (.iaload, 1) := by decide +kernel
theorem dX7_fits_24 : decode cX7_fits 24 = .ok (.if_icmp .le 5, 3) := by decide +kernel
theorem dX7_fits_27 : decode cX7_fits 27 = .ok (.iconst 0, 1) := by decide +kernel
theorem dX7_fits_28 : decode cX7_fits 28 = .ok (.ireturn, 1) := by decide +kernel
theorem dX7_fits_29 : decode cX7_fits 29 = .ok (.aload_n 0, 1) := by decide +kernel
theorem dX7_fits_30 : decode cX7_fits 30 = .ok (.getfield 127, 3) := by decide +kernel
theorem dX7_fits_33 : decode cX7_fits 33 = .ok (.iload_n 3, 1) := by decide +kernel
theorem dX7_fits_34 : decode cX7_fits 34 = .ok (.iaload, 1) := by decide +kernel
theorem dX7_fits_35 : decode cX7_fits 35 = .ok (.ifCond .gt 34, 3) := by decide +kernel
theorem dX7_fits_38 : decode cX7_fits 38 = .ok (.iload_n 3, 1) := by decide +kernel
theorem dX7_fits_39 : decode cX7_fits 39 = .ok (.ifCond .le 14, 3) := by decide +kernel
theorem dX7_fits_42 : decode cX7_fits 42 = .ok (.aload_n 0, 1) := by decide +kernel
theorem dX7_fits_43 : decode cX7_fits 43 = .ok (.getfield 127, 3) := by decide +kernel
theorem dX7_fits_46 : decode cX7_fits 46 = .ok (.iload_n 3, 1) := by decide +kernel
theorem dX7_fits_47 : decode cX7_fits 47 = .ok (.iconst 1, 1) := by decide +kernel
theorem dX7_fits_48 : decode cX7_fits 48 = .ok (.isub, 1) := by decide +kernel
theorem dX7_fits_49 : decode cX7_fits 49 = .ok (.iaload, 1) := by decide +kernel
theorem dX7_fits_50 : decode cX7_fits 50 = .ok (.ifCond .gt 19, 3) := by decide +kernel
theorem dX7_fits_53 : decode cX7_fits 53 = .ok (.iload_n 3, 1) := by decide +kernel
theorem dX7_fits_54 : decode cX7_fits 54 = .ok (.iconst 3, 1) := by decide +kernel
theorem dX7_fits_55 : decode cX7_fits 55 = .ok (.if_icmp .ge 18, 3) := by decide +kernel
theorem dX7_fits_58 : decode cX7_fits 58 = .ok (.aload_n 0, 1) := by decide +kernel
theorem dX7_fits_59 : decode cX7_fits 59 = .ok (.getfield 127, 3) := by decide +kernel
theorem dX7_fits_62 : decode cX7_fits 62 = .ok (.iload_n 3, 1) := by decide +kernel
theorem dX7_fits_63 : decode cX7_fits 63 = .ok (.iconst 1, 1) := by decide +kernel
theorem dX7_fits_64 : decode cX7_fits 64 = .ok (.iadd, 1) := by decide +kernel
theorem dX7_fits_65 : decode cX7_fits 65 = .ok (.iaload, 1) := by decide +kernel
theorem dX7_fits_66 : decode cX7_fits 66 = .ok (.ifCond .le 7, 3) := by decide +kernel
theorem dX7_fits_69 : decode cX7_fits 69 = .ok (.iconst 1, 1) := by decide +kernel
theorem dX7_fits_70 : decode cX7_fits 70 = .ok (.goto 4, 3) := by decide +kernel
theorem dX7_fits_73 : decode cX7_fits 73 = .ok (.iconst 0, 1) := by decide +kernel
theorem dX7_fits_74 : decode cX7_fits 74 = .ok (.istore 4, 2) := by decide +kernel
theorem dX7_fits_76 : decode cX7_fits 76 = .ok (.aload_n 0, 1) := by decide +kernel
theorem dX7_fits_77 : decode cX7_fits 77 = .ok (.getfield 103, 3) := by decide +kernel
theorem dX7_fits_80 : decode cX7_fits 80 = .ok (.iload_n 2, 1) := by decide +kernel
theorem dX7_fits_81 : decode cX7_fits 81 = .ok (.iaload, 1) := by decide +kernel
theorem dX7_fits_82 : decode cX7_fits 82 = .ok (.ifCond .eq 16, 3) := by decide +kernel
theorem dX7_fits_85 : decode cX7_fits 85 = .ok (.aload_n 0, 1) := by decide +kernel
theorem dX7_fits_86 : decode cX7_fits 86 = .ok (.getfield 219, 3) := by decide +kernel
theorem dX7_fits_89 : decode cX7_fits 89 = .ok (.iconst 2, 1) := by decide +kernel
theorem dX7_fits_90 : decode cX7_fits 90 = .ok (.if_icmp .ge 12, 3) := by decide +kernel
theorem dX7_fits_93 : decode cX7_fits 93 = .ok (.iload 4, 2) := by decide +kernel
theorem dX7_fits_95 : decode cX7_fits 95 = .ok (.ifCond .ne 7, 3) := by decide +kernel
theorem dX7_fits_98 : decode cX7_fits 98 = .ok (.iconst 1, 1) := by decide +kernel
theorem dX7_fits_99 : decode cX7_fits 99 = .ok (.goto 4, 3) := by decide +kernel
theorem dX7_fits_102 : decode cX7_fits 102 = .ok (.iconst 0, 1) := by decide +kernel
theorem dX7_fits_103 : decode cX7_fits 103 = .ok (.ireturn, 1) := by decide +kernel
theorem dX7_puts_0 : decode cX7_puts 0 = .ok (.aload_n 0, 1) := by decide +kernel
theorem dX7_puts_1 : decode cX7_puts 1 = .ok (.iload_n 1, 1) := by decide +kernel
theorem dX7_puts_2 : decode cX7_puts 2 = .ok (.iload_n 3, 1) := by decide +kernel
theorem dX7_puts_3 : decode cX7_puts 3 = .ok (.invokevirtual 216, 3) := by decide +kernel
theorem dX7_puts_6 : decode cX7_puts 6 = .ok (.istore 5, 2) := by decide +kernel
theorem dX7_puts_8 : decode cX7_puts 8 = .ok (.aload_n 0, 1) := by decide +kernel
theorem dX7_puts_9 : decode cX7_puts 9 = .ok (.getfield 124, 3) := by decide +kernel
theorem dX7_puts_12 : decode cX7_puts 12 = .ok (.iload_n 3, 1) := by decide +kernel
theorem dX7_puts_13 : decode cX7_puts 13 = .ok (.dup2, 1) := by decide +kernel
theorem dX7_puts_14 : decode cX7_puts 14 = .ok (.iaload, 1) := by decide +kernel
theorem dX7_puts_15 : decode cX7_puts 15 = .ok (.iload 4, 2) := by decide +kernel
theorem dX7_puts_17 : decode cX7_puts 17 = .ok (.aload_n 0, 1) := by decide +kernel
theorem dX7_puts_18 : decode cX7_puts 18 = .ok (.getfield 97, 3) := by decide +kernel
theorem dX7_puts_21 : decode cX7_puts 21 = .ok (.iload_n 2, 1) := by decide +kernel
theorem dX7_puts_22 : decode cX7_puts 22 = .ok (.iaload, 1) := by decide +kernel
theorem dX7_puts_23 : decode cX7_puts 23 = .ok (.imul, 1) := by decide +kernel
theorem dX7_puts_24 : decode cX7_puts 24 = .ok (.iadd, 1) := by decide +kernel
theorem dX7_puts_25 : decode cX7_puts 25 = .ok (.iastore, 1) := by decide +kernel
theorem dX7_puts_26 : decode cX7_puts 26 = .ok (.aload_n 0, 1) := by decide +kernel
theorem dX7_puts_27 : decode cX7_puts 27 = .ok (.getfield 127, 3) := by decide +kernel
theorem dX7_puts_30 : decode cX7_puts 30 = .ok (.iload_n 3, 1) := by decide +kernel
theorem dX7_puts_31 : decode cX7_puts 31 = .ok (.dup2, 1) := by decide +kernel
theorem dX7_puts_32 : decode cX7_puts 32 = .ok (.iaload, 1) := by decide +kernel
theorem dX7_puts_33 : decode cX7_puts 33 = .ok (.iload 4, 2) := by decide +kernel
theorem dX7_puts_35 : decode cX7_puts 35 = .ok (.aload_n 0, 1) := by decide +kernel
theorem dX7_puts_36 : decode cX7_puts 36 = .ok (.getfield 103, 3) := by decide +kernel
theorem dX7_puts_39 : decode cX7_puts 39 = .ok (.iload_n 2, 1) := by decide +kernel
theorem dX7_puts_40 : decode cX7_puts 40 = .ok (.iaload, 1) := by decide +kernel
theorem dX7_puts_41 : decode cX7_puts 41 = .ok (.imul, 1) := by decide +kernel
theorem dX7_puts_42 : decode cX7_puts 42 = .ok (.iadd, 1) := by decide +kernel
theorem dX7_puts_43 : decode cX7_puts 43 = .ok (.iastore, 1) := by decide +kernel
theorem dX7_puts_44 : decode cX7_puts 44 = .ok (.aload_n 0, 1) := by decide +kernel
theorem dX7_puts_45 : decode cX7_puts 45 = .ok (.dup, 1) := by decide +kernel
theorem dX7_puts_46 : decode cX7_puts 46 = .ok (.getfield 219, 3) := by decide +kernel
theorem dX7_puts_49 : decode cX7_puts 49 = .ok (.iload 4, 2) := by decide +kernel
theorem dX7_puts_51 : decode cX7_puts 51 = .ok (.aload_n 0, 1) := by decide +kernel
theorem dX7_puts_52 : decode cX7_puts 52 = .ok (.getfield 103, 3) := by decide +kernel
theorem dX7_puts_55 : decode cX7_puts 55 = .ok (.iload_n 2, 1) := by decide +kernel
theorem dX7_puts_56 : decode cX7_puts 56 = .ok (.iaload, 1) := by decide +kernel
theorem dX7_puts_57 : decode cX7_puts 57 = .ok (.imul, 1) := by decide +kernel
theorem dX7_puts_58 : decode cX7_puts 58 = .ok (.iadd, 1) := by decide +kernel
theorem dX7_puts_59 : decode cX7_puts 59 = .ok (.putfield 219, 3) := by decide +kernel
theorem dX7_puts_62 : decode cX7_puts 62 = .ok (.aload_n 0, 1) := by decide +kernel
theorem dX7_puts_63 : decode cX7_puts 63 = .ok (.dup, 1) := by decide +kernel
theorem dX7_puts_64 : decode cX7_puts 64 = .ok (.getfield 222, 3) := by decide +kernel
theorem dX7_puts_67 : decode cX7_puts 67 = .ok (.iload 4, 2) := by decide +kernel
theorem dX7_puts_69 : decode cX7_puts 69 = .ok (.aload_n 0, 1) := by decide +kernel
theorem dX7_puts_70 : decode cX7_puts 70 = .ok (.getfield 100, 3) := by decide +kernel
theorem dX7_puts_73 : decode cX7_puts 73 = .ok (.iload_n 2, 1) := by decide +kernel
theorem dX7_puts_74 : decode cX7_puts 74 = .ok (.iaload, 1) := by decide +kernel
theorem dX7_puts_75 : decode cX7_puts 75 = .ok (.imul, 1) := by decide +kernel
theorem dX7_puts_76 : decode cX7_puts 76 = .ok (.iadd, 1) := by decide +kernel
theorem dX7_puts_77 : decode cX7_puts 77 = .ok (.putfield 222, 3) := by decide +kernel
theorem dX7_puts_80 : decode cX7_puts 80 = .ok (.aload_n 0, 1) := by decide +kernel
theorem dX7_puts_81 : decode cX7_puts 81 = .ok (.getfield 82, 3) := by decide +kernel
theorem dX7_puts_84 : decode cX7_puts 84 = .ok (.iload_n 1, 1) := by decide +kernel
theorem dX7_puts_85 : decode cX7_puts 85 = .ok (.dup2, 1) := by decide +kernel
theorem dX7_puts_86 : decode cX7_puts 86 = .ok (.iaload, 1) := by decide +kernel
theorem dX7_puts_87 : decode cX7_puts 87 = .ok (.iload 5, 2) := by decide +kernel
theorem dX7_puts_89 : decode cX7_puts 89 = .ok (.iconst 1, 1) := by decide +kernel
theorem dX7_puts_90 : decode cX7_puts 90 = .ok (.if_icmp .ne 15, 3) := by decide +kernel
theorem dX7_puts_93 : decode cX7_puts 93 = .ok (.iload 4, 2) := by decide +kernel
theorem dX7_puts_95 : decode cX7_puts 95 = .ok (.aload_n 0, 1) := by decide +kernel
theorem dX7_puts_96 : decode cX7_puts 96 = .ok (.getfield 100, 3) := by decide +kernel
theorem dX7_puts_99 : decode cX7_puts 99 = .ok (.iload_n 2, 1) := by decide +kernel
theorem dX7_puts_100 : decode cX7_puts 100 = .ok (.iaload, 1) := by decide +kernel
theorem dX7_puts_101 : decode cX7_puts 101 = .ok (.imul, 1) := by decide +kernel
theorem dX7_puts_102 : decode cX7_puts 102 = .ok (.goto 4, 3) := by decide +kernel
theorem dX7_puts_105 : decode cX7_puts 105 = .ok (.iconst 0, 1) := by decide +kernel
theorem dX7_puts_106 : decode cX7_puts 106 = .ok (.iadd, 1) := by decide +kernel
theorem dX7_puts_107 : decode cX7_puts 107 = .ok (.iastore, 1) := by decide +kernel
theorem dX7_puts_108 : decode cX7_puts 108 = .ok (.aload_n 0, 1) := by decide +kernel
theorem dX7_puts_109 : decode cX7_puts 109 = .ok (.getfield 85, 3) := by decide +kernel
theorem dX7_puts_112 : decode cX7_puts 112 = .ok (.iload_n 1, 1) := by decide +kernel
theorem dX7_puts_113 : decode cX7_puts 113 = .ok (.dup2, 1) := by decide +kernel
theorem dX7_puts_114 : decode cX7_puts 114 = .ok (.iaload, 1) := by decide +kernel
theorem dX7_puts_115 : decode cX7_puts 115 = .ok (.iload 5, 2) := by decide +kernel
theorem dX7_puts_117 : decode cX7_puts 117 = .ok (.iconst 2, 1) := by decide +kernel
theorem dX7_puts_118 : decode cX7_puts 118 = .ok (.if_icmp .ne 15, 3) := by decide +kernel
theorem dX7_puts_121 : decode cX7_puts 121 = .ok (.iload 4, 2) := by decide +kernel
theorem dX7_puts_123 : decode cX7_puts 123 = .ok (.aload_n 0, 1) := by decide +kernel
theorem dX7_puts_124 : decode cX7_puts 124 = .ok (.getfield 100, 3) := by decide +kernel
theorem dX7_puts_127 : decode cX7_puts 127 = .ok (.iload_n 2, 1) := by decide +kernel
theorem dX7_puts_128 : decode cX7_puts 128 = .ok (.iaload, 1) := by decide +kernel
theorem dX7_puts_129 : decode cX7_puts 129 = .ok (.imul, 1) := by decide +kernel
theorem dX7_puts_130 : decode cX7_puts 130 = .ok (.goto 4, 3) := by decide +kernel
theorem dX7_puts_133 : decode cX7_puts 133 = .ok (.iconst 0, 1) := by decide +kernel
theorem dX7_puts_134 : decode cX7_puts 134 = .ok (.iadd, 1) := by decide +kernel
theorem dX7_puts_135 : decode cX7_puts 135 = .ok (.iastore, 1) := by decide +kernel
theorem dX7_puts_136 : decode cX7_puts 136 = .ok (.aload_n 0, 1) := by decide +kernel
theorem dX7_puts_137 : decode cX7_puts 137 = .ok (.getfield 121, 3) := by decide +kernel
theorem dX7_puts_140 : decode cX7_puts 140 = .ok (.iload_n 2, 1) := by decide +kernel
theorem dX7_puts_141 : decode cX7_puts 141 = .ok (.iload 4, 2) := by decide +kernel
theorem dX7_puts_143 : decode cX7_puts 143 = .ok (.ifCond .le 9, 3) := by decide +kernel
theorem dX7_puts_146 : decode cX7_puts 146 = .ok (.iload_n 3, 1) := by decide +kernel
theorem dX7_puts_147 : decode cX7_puts 147 = .ok (.iconst 1, 1) := by decide +kernel
theorem dX7_puts_148 : decode cX7_puts 148 = .ok (.iadd, 1) := by decide +kernel
theorem dX7_puts_149 : decode cX7_puts 149 = .ok (.goto 4, 3) := by decide +kernel
theorem dX7_puts_152 : decode cX7_puts 152 = .ok (.iconst 0, 1) := by decide +kernel
theorem dX7_puts_153 : decode cX7_puts 153 = .ok (.iastore, 1) := by decide +kernel
theorem dX7_puts_154 : decode cX7_puts 154 = .ok (.aload_n 0, 1) := by decide +kernel
theorem dX7_puts_155 : decode cX7_puts 155 = .ok (.getfield 118, 3) := by decide +kernel
theorem dX7_puts_158 : decode cX7_puts 158 = .ok (.iload_n 2, 1) := by decide +kernel
theorem dX7_puts_159 : decode cX7_puts 159 = .ok (.iload 4, 2) := by decide +kernel
theorem dX7_puts_161 : decode cX7_puts 161 = .ok (.ifCond .le 7, 3) := by decide +kernel
theorem dX7_puts_164 : decode cX7_puts 164 = .ok (.iconst 1, 1) := by decide +kernel
theorem dX7_puts_165 : decode cX7_puts 165 = .ok (.goto 4, 3) := by decide +kernel
theorem dX7_puts_168 : decode cX7_puts 168 = .ok (.iconst 0, 1) := by decide +kernel
theorem dX7_puts_169 : decode cX7_puts 169 = .ok (.iastore, 1) := by decide +kernel
theorem dX7_puts_170 : decode cX7_puts 170 = .ok (.return_, 1) := by decide +kernel
theorem dX7_takes_0 : decode cX7_takes 0 = .ok (.aload_n 0, 1) := by decide +kernel
theorem dX7_takes_1 : decode cX7_takes 1 = .ok (.getfield 94, 3) := by decide +kernel
theorem dX7_takes_4 : decode cX7_takes 4 = .ok (.iload_n 2, 1) := by decide +kernel
theorem dX7_takes_5 : decode cX7_takes 5 = .ok (.iaload, 1) := by decide +kernel
theorem dX7_takes_6 : decode cX7_takes 6 = .ok (.ifCond .ne 11, 3) := by decide +kernel
theorem dX7_takes_9 : decode cX7_takes 9 = .ok (.aload_n 0, 1) := by decide +kernel
theorem dX7_takes_10 : decode cX7_takes 10 = .ok (.getfield 118, 3) := by decide +kernel
theorem dX7_takes_13 : decode cX7_takes 13 = .ok (.iload_n 2, 1) := by decide +kernel
theorem dX7_takes_14 : decode cX7_takes 14 = .ok (.iconst 1, 1) := by decide +kernel
theorem dX7_takes_15 : decode cX7_takes 15 = .ok (.iastore, 1) := by decide +kernel
theorem dX7_takes_16 : decode cX7_takes 16 = .ok (.return_, 1) := by decide +kernel
theorem dX7_takes_17 : decode cX7_takes 17 = .ok (.iconst (-1), 1) := by decide +kernel
theorem dX7_takes_18 : decode cX7_takes 18 = .ok (.istore_n 3, 1) := by decide +kernel
theorem dX7_takes_19 : decode cX7_takes 19 = .ok (.iconst 0, 1) := by decide +kernel
theorem dX7_takes_20 : decode cX7_takes 20 = .ok (.istore 4, 2) := by decide +kernel
theorem dX7_takes_22 : decode cX7_takes 22 = .ok (.iload 4, 2) := by decide +kernel
theorem dX7_takes_24 : decode cX7_takes 24 = .ok (.aload_n 0, 1) := by decide +kernel
theorem dX7_takes_25 : decode cX7_takes 25 = .ok (.getfield 13, 3) := by decide +kernel
theorem dX7_takes_28 : decode cX7_takes 28 = .ok (.aload_n 0, 1) := by decide +kernel
theorem dX7_takes_29 : decode cX7_takes 29 = .ok (.getfield 58, 3) := by decide +kernel
theorem dX7_takes_32 : decode cX7_takes 32 = .ok (.iload_n 1, 1) := by decide +kernel
theorem dX7_takes_33 : decode cX7_takes 33 = .ok (.iaload, 1) := by decide +kernel
theorem dX7_takes_34 : decode cX7_takes 34 = .ok (.iaload, 1) := by decide +kernel
theorem dX7_takes_35 : decode cX7_takes 35 = .ok (.if_icmp .ge 72, 3) := by decide +kernel
theorem dX7_takes_38 : decode cX7_takes 38 = .ok (.iload_n 3, 1) := by decide +kernel
theorem dX7_takes_39 : decode cX7_takes 39 = .ok (.iconst (-1), 1) := by decide +kernel
theorem dX7_takes_40 : decode cX7_takes 40 = .ok (.if_icmp .eq 31, 3) := by decide +kernel
theorem dX7_takes_43 : decode cX7_takes 43 = .ok (.aload_n 0, 1) := by decide +kernel
theorem dX7_takes_44 : decode cX7_takes 44 = .ok (.iload_n 1, 1) := by decide +kernel
theorem dX7_takes_45 : decode cX7_takes 45 = .ok (.iload 4, 2) := by decide +kernel
theorem dX7_takes_47 : decode cX7_takes 47 = .ok (.aload_n 0, 1) := by decide +kernel
theorem dX7_takes_48 : decode cX7_takes 48 = .ok (.getfield 100, 3) := by decide +kernel
theorem dX7_takes_51 : decode cX7_takes 51 = .ok (.iload_n 2, 1) := by decide +kernel
theorem dX7_takes_52 : decode cX7_takes 52 = .ok (.iaload, 1) := by decide +kernel
theorem dX7_takes_53 : decode cX7_takes 53 = .ok (.invokevirtual 225, 3) := by decide +kernel
theorem dX7_takes_56 : decode cX7_takes 56 = .ok (.aload_n 0, 1) := by decide +kernel
theorem dX7_takes_57 : decode cX7_takes 57 = .ok (.iload_n 1, 1) := by decide +kernel
theorem dX7_takes_58 : decode cX7_takes 58 = .ok (.iload_n 3, 1) := by decide +kernel
theorem dX7_takes_59 : decode cX7_takes 59 = .ok (.aload_n 0, 1) := by decide +kernel
theorem dX7_takes_60 : decode cX7_takes 60 = .ok (.getfield 100, 3) := by decide +kernel
theorem dX7_takes_63 : decode cX7_takes 63 = .ok (.iload_n 2, 1) := by decide +kernel
theorem dX7_takes_64 : decode cX7_takes 64 = .ok (.iaload, 1) := by decide +kernel
theorem dX7_takes_65 : decode cX7_takes 65 = .ok (.invokevirtual 225, 3) := by decide +kernel
theorem dX7_takes_68 : decode cX7_takes 68 = .ok (.if_icmp .ge 7, 3) := by decide +kernel
theorem dX7_takes_71 : decode cX7_takes 71 = .ok (.iconst 1, 1) := by decide +kernel
theorem dX7_takes_72 : decode cX7_takes 72 = .ok (.goto 4, 3) := by decide +kernel
theorem dX7_takes_75 : decode cX7_takes 75 = .ok (.iconst 0, 1) := by decide +kernel
theorem dX7_takes_76 : decode cX7_takes 76 = .ok (.istore 5, 2) := by decide +kernel
theorem dX7_takes_78 : decode cX7_takes 78 = .ok (.iload 5, 2) := by decide +kernel
theorem dX7_takes_80 : decode cX7_takes 80 = .ok (.ifCond .eq 19, 3) := by decide +kernel
theorem dX7_takes_83 : decode cX7_takes 83 = .ok (.aload_n 0, 1) := by decide +kernel
theorem dX7_takes_84 : decode cX7_takes 84 = .ok (.iload_n 1, 1) := by decide +kernel
theorem dX7_takes_85 : decode cX7_takes 85 = .ok (.iload_n 2, 1) := by decide +kernel
theorem dX7_takes_86 : decode cX7_takes 86 = .ok (.iload 4, 2) := by decide +kernel
theorem dX7_takes_88 : decode cX7_takes 88 = .ok (.invokevirtual 229, 3) := by decide +kernel
theorem dX7_takes_91 : decode cX7_takes 91 = .ok (.ifCond .eq 8, 3) := by decide +kernel
theorem dX7_takes_94 : decode cX7_takes 94 = .ok (.iload 4, 2) := by decide +kernel
theorem dX7_takes_96 : decode cX7_takes 96 = .ok (.goto 4, 3) := by decide +kernel
theorem dX7_takes_99 : decode cX7_takes 99 = .ok (.iload_n 3, 1) := by decide +kernel
theorem dX7_takes_100 : decode cX7_takes 100 = .ok (.istore_n 3, 1) := by decide +kernel
theorem dX7_takes_101 : decode cX7_takes 101 = .ok (.iinc 4 1, 3) := by decide +kernel
theorem dX7_takes_104 : decode cX7_takes 104 = .ok (.goto (-82), 3) := by decide +kernel
theorem dX7_takes_107 : decode cX7_takes 107 = .ok (.iload_n 3, 1) := by decide +kernel
theorem dX7_takes_108 : decode cX7_takes 108 = .ok (.iconst (-1), 1) := by decide +kernel
theorem dX7_takes_109 : decode cX7_takes 109 = .ok (.if_icmp .eq 56, 3) := by decide +kernel
theorem dX7_takes_112 : decode cX7_takes 112 = .ok (.aload_n 0, 1) := by decide +kernel
theorem dX7_takes_113 : decode cX7_takes 113 = .ok (.getfield 222, 3) := by decide +kernel
theorem dX7_takes_116 : decode cX7_takes 116 = .ok (.aload_n 0, 1) := by decide +kernel
theorem dX7_takes_117 : decode cX7_takes 117 = .ok (.getfield 100, 3) := by decide +kernel
theorem dX7_takes_120 : decode cX7_takes 120 = .ok (.iload_n 2, 1) := by decide +kernel
theorem dX7_takes_121 : decode cX7_takes 121 = .ok (.iaload, 1) := by decide +kernel
theorem dX7_takes_122 : decode cX7_takes 122 = .ok (.iadd, 1) := by decide +kernel
theorem dX7_takes_123 : decode cX7_takes 123 = .ok (.aload_n 0, 1) := by decide +kernel
theorem dX7_takes_124 : decode cX7_takes 124 = .ok (.getfield 19, 3) := by decide +kernel
theorem dX7_takes_127 : decode cX7_takes 127 = .ok (.aload_n 0, 1) := by decide +kernel
theorem dX7_takes_128 : decode cX7_takes 128 = .ok (.getfield 58, 3) := by decide +kernel
theorem dX7_takes_131 : decode cX7_takes 131 = .ok (.iload_n 1, 1) := by decide +kernel
theorem dX7_takes_132 : decode cX7_takes 132 = .ok (.iaload, 1) := by decide +kernel
theorem dX7_takes_133 : decode cX7_takes 133 = .ok (.iaload, 1) := by decide +kernel
theorem dX7_takes_134 : decode cX7_takes 134 = .ok (.if_icmp .gt 31, 3) := by decide +kernel
theorem dX7_takes_137 : decode cX7_takes 137 = .ok (.aload_n 0, 1) := by decide +kernel
theorem dX7_takes_138 : decode cX7_takes 138 = .ok (.iload_n 1, 1) := by decide +kernel
theorem dX7_takes_139 : decode cX7_takes 139 = .ok (.iload_n 2, 1) := by decide +kernel
theorem dX7_takes_140 : decode cX7_takes 140 = .ok (.iload_n 3, 1) := by decide +kernel
theorem dX7_takes_141 : decode cX7_takes 141 = .ok (.iconst 1, 1) := by decide +kernel
theorem dX7_takes_142 : decode cX7_takes 142 = .ok (.invokevirtual 232, 3) := by decide +kernel
theorem dX7_takes_145 : decode cX7_takes 145 = .ok (.aload_n 0, 1) := by decide +kernel
theorem dX7_takes_146 : decode cX7_takes 146 = .ok (.getfield 130, 3) := by decide +kernel
theorem dX7_takes_149 : decode cX7_takes 149 = .ok (.aload_n 0, 1) := by decide +kernel
theorem dX7_takes_150 : decode cX7_takes 150 = .ok (.getfield 236, 3) := by decide +kernel
theorem dX7_takes_153 : decode cX7_takes 153 = .ok (.iload_n 2, 1) := by decide +kernel
theorem dX7_takes_154 : decode cX7_takes 154 = .ok (.iastore, 1) := by decide +kernel
theorem dX7_takes_155 : decode cX7_takes 155 = .ok (.aload_n 0, 1) := by decide +kernel
theorem dX7_takes_156 : decode cX7_takes 156 = .ok (.dup, 1) := by decide +kernel
theorem dX7_takes_157 : decode cX7_takes 157 = .ok (.getfield 236, 3) := by decide +kernel
theorem dX7_takes_160 : decode cX7_takes 160 = .ok (.iconst 1, 1) := by decide +kernel
theorem dX7_takes_161 : decode cX7_takes 161 = .ok (.iadd, 1) := by decide +kernel
theorem dX7_takes_162 : decode cX7_takes 162 = .ok (.putfield 236, 3) := by decide +kernel
theorem dX7_takes_165 : decode cX7_takes 165 = .ok (.return_, 1) := by decide +kernel
theorem dX7_putsOff_0 : decode cX7_putsOff 0 = .ok (.aload_n 0, 1) := by decide +kernel
theorem dX7_putsOff_1 : decode cX7_putsOff 1 = .ok (.getfield 82, 3) := by decide +kernel
theorem dX7_putsOff_4 : decode cX7_putsOff 4 = .ok (.iload_n 1, 1) := by decide +kernel
theorem dX7_putsOff_5 : decode cX7_putsOff 5 = .ok (.iaload, 1) := by decide +kernel
theorem dX7_putsOff_6 : decode cX7_putsOff 6 = .ok (.aload_n 0, 1) := by decide +kernel
theorem dX7_putsOff_7 : decode cX7_putsOff 7 = .ok (.getfield 85, 3) := by decide +kernel
theorem dX7_putsOff_10 : decode cX7_putsOff 10 = .ok (.iload_n 1, 1) := by decide +kernel
theorem dX7_putsOff_11 : decode cX7_putsOff 11 = .ok (.iaload, 1) := by decide +kernel
theorem dX7_putsOff_12 : decode cX7_putsOff 12 = .ok (.if_icmp .le 7, 3) := by decide +kernel
theorem dX7_putsOff_15 : decode cX7_putsOff 15 = .ok (.iconst 1, 1) := by decide +kernel
theorem dX7_putsOff_16 : decode cX7_putsOff 16 = .ok (.goto 4, 3) := by decide +kernel
theorem dX7_putsOff_19 : decode cX7_putsOff 19 = .ok (.iconst 2, 1) := by decide +kernel
theorem dX7_putsOff_20 : decode cX7_putsOff 20 = .ok (.istore_n 2, 1) := by decide +kernel
theorem dX7_putsOff_21 : decode cX7_putsOff 21 = .ok (.aload_n 0, 1) := by decide +kernel
theorem dX7_putsOff_22 : decode cX7_putsOff 22 = .ok (.getfield 236, 3) := by decide +kernel
theorem dX7_putsOff_25 : decode cX7_putsOff 25 = .ok (.iconst 1, 1) := by decide +kernel
theorem dX7_putsOff_26 : decode cX7_putsOff 26 = .ok (.isub, 1) := by decide +kernel
theorem dX7_putsOff_27 : decode cX7_putsOff 27 = .ok (.istore_n 3, 1) := by decide +kernel
theorem dX7_putsOff_28 : decode cX7_putsOff 28 = .ok (.aload_n 0, 1) := by decide +kernel
theorem dX7_putsOff_29 : decode cX7_putsOff 29 = .ok (.iload_n 1, 1) := by decide +kernel
theorem dX7_putsOff_30 : decode cX7_putsOff 30 = .ok (.aload_n 0, 1) := by decide +kernel
theorem dX7_putsOff_31 : decode cX7_putsOff 31 = .ok (.getfield 121, 3) := by decide +kernel
theorem dX7_putsOff_34 : decode cX7_putsOff 34 = .ok (.aload_n 0, 1) := by decide +kernel
theorem dX7_putsOff_35 : decode cX7_putsOff 35 = .ok (.getfield 130, 3) := by decide +kernel
theorem dX7_putsOff_38 : decode cX7_putsOff 38 = .ok (.iload_n 3, 1) := by decide +kernel
theorem dX7_putsOff_39 : decode cX7_putsOff 39 = .ok (.iaload, 1) := by decide +kernel
theorem dX7_putsOff_40 : decode cX7_putsOff 40 = .ok (.iaload, 1) := by decide +kernel
theorem dX7_putsOff_41 : decode cX7_putsOff 41 = .ok (.iconst 1, 1) := by decide +kernel
theorem dX7_putsOff_42 : decode cX7_putsOff 42 = .ok (.isub, 1) := by decide +kernel
theorem dX7_putsOff_43 : decode cX7_putsOff 43 = .ok (.invokevirtual 216, 3) := by decide +kernel
theorem dX7_putsOff_46 : decode cX7_putsOff 46 = .ok (.iload_n 2, 1) := by decide +kernel
theorem dX7_putsOff_47 : decode cX7_putsOff 47 = .ok (.if_icmp .eq 9, 3) := by decide +kernel
theorem dX7_putsOff_50 : decode cX7_putsOff 50 = .ok (.iinc 3 (-1), 3) := by decide +kernel
theorem dX7_putsOff_53 : decode cX7_putsOff 53 = .ok (.goto (-25), 3) := by decide +kernel
theorem dX7_putsOff_56 : decode cX7_putsOff 56 = .ok (.aload_n 0, 1) := by decide +kernel
theorem dX7_putsOff_57 : decode cX7_putsOff 57 = .ok (.iload_n 1, 1) := by decide +kernel
theorem dX7_putsOff_58 : decode cX7_putsOff 58 = .ok (.aload_n 0, 1) := by decide +kernel
theorem dX7_putsOff_59 : decode cX7_putsOff 59 = .ok (.getfield 130, 3) := by decide +kernel
theorem dX7_putsOff_62 : decode cX7_putsOff 62 = .ok (.iload_n 3, 1) := by decide +kernel
theorem dX7_putsOff_63 : decode cX7_putsOff 63 = .ok (.iaload, 1) := by decide +kernel
theorem dX7_putsOff_64 : decode cX7_putsOff 64 = .ok (.aload_n 0, 1) := by decide +kernel
theorem dX7_putsOff_65 : decode cX7_putsOff 65 = .ok (.getfield 121, 3) := by decide +kernel
theorem dX7_putsOff_68 : decode cX7_putsOff 68 = .ok (.aload_n 0, 1) := by decide +kernel
theorem dX7_putsOff_69 : decode cX7_putsOff 69 = .ok (.getfield 130, 3) := by decide +kernel
theorem dX7_putsOff_72 : decode cX7_putsOff 72 = .ok (.iload_n 3, 1) := by decide +kernel
theorem dX7_putsOff_73 : decode cX7_putsOff 73 = .ok (.iaload, 1) := by decide +kernel
theorem dX7_putsOff_74 : decode cX7_putsOff 74 = .ok (.iaload, 1) := by decide +kernel
theorem dX7_putsOff_75 : decode cX7_putsOff 75 = .ok (.iconst 1, 1) := by decide +kernel
theorem dX7_putsOff_76 : decode cX7_putsOff 76 = .ok (.isub, 1) := by decide +kernel
theorem dX7_putsOff_77 : decode cX7_putsOff 77 = .ok (.iconst (-1), 1) := by decide +kernel
theorem dX7_putsOff_78 : decode cX7_putsOff 78 = .ok (.invokevirtual 232, 3) := by decide +kernel
theorem dX7_putsOff_81 : decode cX7_putsOff 81 = .ok (.aload_n 0, 1) := by decide +kernel
theorem dX7_putsOff_82 : decode cX7_putsOff 82 = .ok (.dup, 1) := by decide +kernel
theorem dX7_putsOff_83 : decode cX7_putsOff 83 = .ok (.getfield 236, 3) := by decide +kernel
theorem dX7_putsOff_86 : decode cX7_putsOff 86 = .ok (.iconst 1, 1) := by decide +kernel
theorem dX7_putsOff_87 : decode cX7_putsOff 87 = .ok (.isub, 1) := by decide +kernel
theorem dX7_putsOff_88 : decode cX7_putsOff 88 = .ok (.putfield 236, 3) := by decide +kernel
theorem dX7_putsOff_91 : decode cX7_putsOff 91 = .ok (.iload_n 3, 1) := by decide +kernel
theorem dX7_putsOff_92 : decode cX7_putsOff 92 = .ok (.istore 4, 2) := by decide +kernel
theorem dX7_putsOff_94 : decode cX7_putsOff 94 = .ok (.iload 4, 2) := by decide +kernel
theorem dX7_putsOff_96 : decode cX7_putsOff 96 = .ok (.aload_n 0, 1) := by decide +kernel
theorem dX7_putsOff_97 : decode cX7_putsOff 97 = .ok (.getfield 236, 3) := by decide +kernel
theorem dX7_putsOff_100 : decode cX7_putsOff 100 = .ok (.if_icmp .ge 25, 3) := by decide +kernel
theorem dX7_putsOff_103 : decode cX7_putsOff 103 = .ok (.aload_n 0, 1) := by decide +kernel
theorem dX7_putsOff_104 : decode cX7_putsOff 104 = .ok (.getfield 130, 3) := by decide +kernel
theorem dX7_putsOff_107 : decode cX7_putsOff 107 = .ok (.iload 4, 2) := by decide +kernel
theorem dX7_putsOff_109 : decode cX7_putsOff 109 = .ok (.aload_n 0, 1) := by decide +kernel
theorem dX7_putsOff_110 : decode cX7_putsOff 110 = .ok (.getfield 130, 3) := by decide +kernel
theorem dX7_putsOff_113 : decode cX7_putsOff 113 = .ok (.iload 4, 2) := by decide +kernel
theorem dX7_putsOff_115 : decode cX7_putsOff 115 = .ok (.iconst 1, 1) := by decide +kernel
theorem dX7_putsOff_116 : decode cX7_putsOff 116 = .ok (.iadd, 1) := by decide +kernel
theorem dX7_putsOff_117 : decode cX7_putsOff 117 = .ok (.iaload, 1) := by decide +kernel
theorem dX7_putsOff_118 : decode cX7_putsOff 118 = .ok (.iastore, 1) := by decide +kernel
theorem dX7_putsOff_119 : decode cX7_putsOff 119 = .ok (.iinc 4 1, 3) := by decide +kernel
theorem dX7_putsOff_122 : decode cX7_putsOff 122 = .ok (.goto (-28), 3) := by decide +kernel
theorem dX7_putsOff_125 : decode cX7_putsOff 125 = .ok (.return_, 1) := by decide +kernel
theorem dX7_sails_0 : decode cX7_sails 0 = .ok (.aload_n 0, 1) := by decide +kernel
theorem dX7_sails_1 : decode cX7_sails 1 = .ok (.getfield 73, 3) := by decide +kernel
theorem dX7_sails_4 : decode cX7_sails 4 = .ok (.iload_n 1, 1) := by decide +kernel
theorem dX7_sails_5 : decode cX7_sails 5 = .ok (.iconst 2, 1) := by decide +kernel
theorem dX7_sails_6 : decode cX7_sails 6 = .ok (.iastore, 1) := by decide +kernel
theorem dX7_sails_7 : decode cX7_sails 7 = .ok (.aload_n 0, 1) := by decide +kernel
theorem dX7_sails_8 : decode cX7_sails 8 = .ok (.getfield 28, 3) := by decide +kernel
theorem dX7_sails_11 : decode cX7_sails 11 = .ok (.aload_n 0, 1) := by decide +kernel
theorem dX7_sails_12 : decode cX7_sails 12 = .ok (.getfield 58, 3) := by decide +kernel
theorem dX7_sails_15 : decode cX7_sails 15 = .ok (.iload_n 1, 1) := by decide +kernel
theorem dX7_sails_16 : decode cX7_sails 16 = .ok (.iaload, 1) := by decide +kernel
theorem dX7_sails_17 : decode cX7_sails 17 = .ok (.dup2, 1) := by decide +kernel
theorem dX7_sails_18 : decode cX7_sails 18 = .ok (.iaload, 1) := by decide +kernel
theorem dX7_sails_19 : decode cX7_sails 19 = .ok (.aload_n 0, 1) := by decide +kernel
theorem dX7_sails_20 : decode cX7_sails 20 = .ok (.iload_n 1, 1) := by decide +kernel
theorem dX7_sails_21 : decode cX7_sails 21 = .ok (.invokevirtual 213, 3) := by decide +kernel
theorem dX7_sails_24 : decode cX7_sails 24 = .ok (.isub, 1) := by decide +kernel
theorem dX7_sails_25 : decode cX7_sails 25 = .ok (.iastore, 1) := by decide +kernel
theorem dX7_sails_26 : decode cX7_sails 26 = .ok (.aload_n 0, 1) := by decide +kernel
theorem dX7_sails_27 : decode cX7_sails 27 = .ok (.getfield 40, 3) := by decide +kernel
theorem dX7_sails_30 : decode cX7_sails 30 = .ok (.sipush 501, 3) := by decide +kernel
theorem dX7_sails_33 : decode cX7_sails 33 = .ok (.aload_n 0, 1) := by decide +kernel
theorem dX7_sails_34 : decode cX7_sails 34 = .ok (.iload_n 1, 1) := by decide +kernel
theorem dX7_sails_35 : decode cX7_sails 35 = .ok (.invokevirtual 210, 3) := by decide +kernel
theorem dX7_sails_38 : decode cX7_sails 38 = .ok (.imul, 1) := by decide +kernel
theorem dX7_sails_39 : decode cX7_sails 39 = .ok (.aload_n 0, 1) := by decide +kernel
theorem dX7_sails_40 : decode cX7_sails 40 = .ok (.getfield 67, 3) := by decide +kernel
theorem dX7_sails_43 : decode cX7_sails 43 = .ok (.iload_n 1, 1) := by decide +kernel
theorem dX7_sails_44 : decode cX7_sails 44 = .ok (.iaload, 1) := by decide +kernel
theorem dX7_sails_45 : decode cX7_sails 45 = .ok (.bipush 24, 2) := by decide +kernel
theorem dX7_sails_47 : decode cX7_sails 47 = .ok (.idiv, 1) := by decide +kernel
theorem dX7_sails_48 : decode cX7_sails 48 = .ok (.iadd, 1) := by decide +kernel
theorem dX7_sails_49 : decode cX7_sails 49 = .ok (.dup2, 1) := by decide +kernel
theorem dX7_sails_50 : decode cX7_sails 50 = .ok (.iaload, 1) := by decide +kernel
theorem dX7_sails_51 : decode cX7_sails 51 = .ok (.aload_n 0, 1) := by decide +kernel
theorem dX7_sails_52 : decode cX7_sails 52 = .ok (.iload_n 1, 1) := by decide +kernel
theorem dX7_sails_53 : decode cX7_sails 53 = .ok (.invokevirtual 170, 3) := by decide +kernel
theorem dX7_sails_56 : decode cX7_sails 56 = .ok (.iadd, 1) := by decide +kernel
theorem dX7_sails_57 : decode cX7_sails 57 = .ok (.iastore, 1) := by decide +kernel
theorem dX7_sails_58 : decode cX7_sails 58 = .ok (.iconst 0, 1) := by decide +kernel
theorem dX7_sails_59 : decode cX7_sails 59 = .ok (.istore_n 2, 1) := by decide +kernel
theorem dX7_sails_60 : decode cX7_sails 60 = .ok (.iload_n 2, 1) := by decide +kernel
theorem dX7_sails_61 : decode cX7_sails 61 = .ok (.iconst 4, 1) := by decide +kernel
theorem dX7_sails_62 : decode cX7_sails 62 = .ok (.if_icmp .ge 23, 3) := by decide +kernel
theorem dX7_sails_65 : decode cX7_sails 65 = .ok (.aload_n 0, 1) := by decide +kernel
theorem dX7_sails_66 : decode cX7_sails 66 = .ok (.getfield 124, 3) := by decide +kernel
theorem dX7_sails_69 : decode cX7_sails 69 = .ok (.iload_n 2, 1) := by decide +kernel
theorem dX7_sails_70 : decode cX7_sails 70 = .ok (.iconst 0, 1) := by decide +kernel
theorem dX7_sails_71 : decode cX7_sails 71 = .ok (.iastore, 1) := by decide +kernel
theorem dX7_sails_72 : decode cX7_sails 72 = .ok (.aload_n 0, 1) := by decide +kernel
theorem dX7_sails_73 : decode cX7_sails 73 = .ok (.getfield 127, 3) := by decide +kernel
theorem dX7_sails_76 : decode cX7_sails 76 = .ok (.iload_n 2, 1) := by decide +kernel
theorem dX7_sails_77 : decode cX7_sails 77 = .ok (.iconst 0, 1) := by decide +kernel
theorem dX7_sails_78 : decode cX7_sails 78 = .ok (.iastore, 1) := by decide +kernel
theorem dX7_sails_79 : decode cX7_sails 79 = .ok (.iinc 2 1, 3) := by decide +kernel
theorem dX7_sails_82 : decode cX7_sails 82 = .ok (.goto (-22), 3) := by decide +kernel
theorem dX7_sails_85 : decode cX7_sails 85 = .ok (.aload_n 0, 1) := by decide +kernel
theorem dX7_sails_86 : decode cX7_sails 86 = .ok (.iconst 0, 1) := by decide +kernel
theorem dX7_sails_87 : decode cX7_sails 87 = .ok (.putfield 236, 3) := by decide +kernel
theorem dX7_sails_90 : decode cX7_sails 90 = .ok (.aload_n 0, 1) := by decide +kernel
theorem dX7_sails_91 : decode cX7_sails 91 = .ok (.iconst 0, 1) := by decide +kernel
theorem dX7_sails_92 : decode cX7_sails 92 = .ok (.putfield 222, 3) := by decide +kernel
theorem dX7_sails_95 : decode cX7_sails 95 = .ok (.aload_n 0, 1) := by decide +kernel
theorem dX7_sails_96 : decode cX7_sails 96 = .ok (.iconst 0, 1) := by decide +kernel
theorem dX7_sails_97 : decode cX7_sails 97 = .ok (.putfield 219, 3) := by decide +kernel
theorem dX7_sails_100 : decode cX7_sails 100 = .ok (.iconst 0, 1) := by decide +kernel
theorem dX7_sails_101 : decode cX7_sails 101 = .ok (.istore_n 2, 1) := by decide +kernel
theorem dX7_sails_102 : decode cX7_sails 102 = .ok (.iload_n 2, 1) := by decide +kernel
theorem dX7_sails_103 : decode cX7_sails 103 = .ok (.iconst 2, 1) := by decide +kernel
theorem dX7_sails_104 : decode cX7_sails 104 = .ok (.if_icmp .ge 55, 3) := by decide +kernel
theorem dX7_sails_107 : decode cX7_sails 107 = .ok (.iconst 0, 1) := by decide +kernel
theorem dX7_sails_108 : decode cX7_sails 108 = .ok (.istore_n 3, 1) := by decide +kernel
theorem dX7_sails_109 : decode cX7_sails 109 = .ok (.iload_n 3, 1) := by decide +kernel
theorem dX7_sails_110 : decode cX7_sails 110 = .ok (.aload_n 0, 1) := by decide +kernel
theorem dX7_sails_111 : decode cX7_sails 111 = .ok (.getfield 147, 3) := by decide +kernel
theorem dX7_sails_114 : decode cX7_sails 114 = .ok (.if_icmp .ge 39, 3) := by decide +kernel
theorem dX7_sails_117 : decode cX7_sails 117 = .ok (.aload_n 0, 1) := by decide +kernel
theorem dX7_sails_118 : decode cX7_sails 118 = .ok (.getfield 91, 3) := by decide +kernel
theorem dX7_sails_121 : decode cX7_sails 121 = .ok (.iload_n 3, 1) := by decide +kernel
theorem dX7_sails_122 : decode cX7_sails 122 = .ok (.iaload, 1) := by decide +kernel
theorem dX7_sails_123 : decode cX7_sails 123 = .ok (.iload_n 1, 1) := by decide +kernel
theorem dX7_sails_124 : decode cX7_sails 124 = .ok (.iconst 1, 1) := by decide +kernel
theorem dX7_sails_125 : decode cX7_sails 125 = .ok (.iadd, 1) := by decide +kernel
theorem dX7_sails_126 : decode cX7_sails 126 = .ok (.if_icmp .ne 21, 3) := by decide +kernel
theorem dX7_sails_129 : decode cX7_sails 129 = .ok (.aload_n 0, 1) := by decide +kernel
theorem dX7_sails_130 : decode cX7_sails 130 = .ok (.getfield 106, 3) := by decide +kernel
theorem dX7_sails_133 : decode cX7_sails 133 = .ok (.iload_n 3, 1) := by decide +kernel
theorem dX7_sails_134 : decode cX7_sails 134 = .ok (.iaload, 1) := by decide +kernel
theorem dX7_sails_135 : decode cX7_sails 135 = .ok (.iconst 1, 1) := by decide +kernel
theorem dX7_sails_136 : decode cX7_sails 136 = .ok (.iload_n 2, 1) := by decide +kernel
theorem dX7_sails_137 : decode cX7_sails 137 = .ok (.isub, 1) := by decide +kernel
theorem dX7_sails_138 : decode cX7_sails 138 = .ok (.if_icmp .ne 9, 3) := by decide +kernel
theorem dX7_sails_141 : decode cX7_sails 141 = .ok (.aload_n 0, 1) := by decide +kernel
theorem dX7_sails_142 : decode cX7_sails 142 = .ok (.iload_n 1, 1) := by decide +kernel
theorem dX7_sails_143 : decode cX7_sails 143 = .ok (.iload_n 3, 1) := by decide +kernel
theorem dX7_sails_144 : decode cX7_sails 144 = .ok (.invokevirtual 239, 3) := by decide +kernel
theorem dX7_sails_147 : decode cX7_sails 147 = .ok (.iinc 3 1, 3) := by decide +kernel
theorem dX7_sails_150 : decode cX7_sails 150 = .ok (.goto (-41), 3) := by decide +kernel
theorem dX7_sails_153 : decode cX7_sails 153 = .ok (.iinc 2 1, 3) := by decide +kernel
theorem dX7_sails_156 : decode cX7_sails 156 = .ok (.goto (-54), 3) := by decide +kernel
theorem dX7_sails_159 : decode cX7_sails 159 = .ok (.aload_n 0, 1) := by decide +kernel
theorem dX7_sails_160 : decode cX7_sails 160 = .ok (.iload_n 1, 1) := by decide +kernel
theorem dX7_sails_161 : decode cX7_sails 161 = .ok (.iconst 0, 1) := by decide +kernel
theorem dX7_sails_162 : decode cX7_sails 162 = .ok (.iconst 0, 1) := by decide +kernel
theorem dX7_sails_163 : decode cX7_sails 163 = .ok (.invokevirtual 225, 3) := by decide +kernel
theorem dX7_sails_166 : decode cX7_sails 166 = .ok (.bipush 20, 2) := by decide +kernel
theorem dX7_sails_168 : decode cX7_sails 168 = .ok (.if_icmp .le 11, 3) := by decide +kernel
theorem dX7_sails_171 : decode cX7_sails 171 = .ok (.aload_n 0, 1) := by decide +kernel
theorem dX7_sails_172 : decode cX7_sails 172 = .ok (.iload_n 1, 1) := by decide +kernel
theorem dX7_sails_173 : decode cX7_sails 173 = .ok (.invokevirtual 243, 3) := by decide +kernel
theorem dX7_sails_176 : decode cX7_sails 176 = .ok (.goto (-17), 3) := by decide +kernel
theorem dX7_sails_179 : decode cX7_sails 179 = .ok (.return_, 1) := by decide +kernel
theorem dX7_pass_0 : decode cX7_pass 0 = .ok (.aload_n 0, 1) := by decide +kernel
theorem dX7_pass_1 : decode cX7_pass 1 = .ok (.iload_n 1, 1) := by decide +kernel
theorem dX7_pass_2 : decode cX7_pass 2 = .ok (.iconst 1, 1) := by decide +kernel
theorem dX7_pass_3 : decode cX7_pass 3 = .ok (.bipush 48, 2) := by decide +kernel
theorem dX7_pass_5 : decode cX7_pass 5 = .ok (.invokestatic 137, 3) := by decide +kernel
theorem dX7_pass_8 : decode cX7_pass 8 = .ok (.ifCond .ne 7, 3) := by decide +kernel
theorem dX7_pass_11 : decode cX7_pass 11 = .ok (.iconst 1, 1) := by decide +kernel
theorem dX7_pass_12 : decode cX7_pass 12 = .ok (.goto 20, 3) := by decide +kernel
theorem dX7_pass_15 : decode cX7_pass 15 = .ok (.aload_n 0, 1) := by decide +kernel
theorem dX7_pass_16 : decode cX7_pass 16 = .ok (.getfield 180, 3) := by decide +kernel
theorem dX7_pass_19 : decode cX7_pass 19 = .ok (.iload_n 1, 1) := by decide +kernel
theorem dX7_pass_20 : decode cX7_pass 20 = .ok (.iadd, 1) := by decide +kernel
theorem dX7_pass_21 : decode cX7_pass 21 = .ok (.sipush 9000, 3) := by decide +kernel
theorem dX7_pass_24 : decode cX7_pass 24 = .ok (.if_icmp .le 7, 3) := by decide +kernel
theorem dX7_pass_27 : decode cX7_pass 27 = .ok (.iconst 2, 1) := by decide +kernel
theorem dX7_pass_28 : decode cX7_pass 28 = .ok (.goto 4, 3) := by decide +kernel
theorem dX7_pass_31 : decode cX7_pass 31 = .ok (.iconst 0, 1) := by decide +kernel
theorem dX7_pass_32 : decode cX7_pass 32 = .ok (.putfield 133, 3) := by decide +kernel
theorem dX7_pass_35 : decode cX7_pass 35 = .ok (.aload_n 0, 1) := by decide +kernel
theorem dX7_pass_36 : decode cX7_pass 36 = .ok (.getfield 133, 3) := by decide +kernel
theorem dX7_pass_39 : decode cX7_pass 39 = .ok (.ifCond .le 5, 3) := by decide +kernel
theorem dX7_pass_42 : decode cX7_pass 42 = .ok (.iconst 0, 1) := by decide +kernel
theorem dX7_pass_43 : decode cX7_pass 43 = .ok (.ireturn, 1) := by decide +kernel
theorem dX7_pass_44 : decode cX7_pass 44 = .ok (.iconst 0, 1) := by decide +kernel
theorem dX7_pass_45 : decode cX7_pass 45 = .ok (.istore_n 2, 1) := by decide +kernel
theorem dX7_pass_46 : decode cX7_pass 46 = .ok (.iload_n 2, 1) := by decide +kernel
theorem dX7_pass_47 : decode cX7_pass 47 = .ok (.iload_n 1, 1) := by decide +kernel
theorem dX7_pass_48 : decode cX7_pass 48 = .ok (.if_icmp .ge 98, 3) := by decide +kernel
theorem dX7_pass_51 : decode cX7_pass 51 = .ok (.iconst 0, 1) := by decide +kernel
theorem dX7_pass_52 : decode cX7_pass 52 = .ok (.istore_n 3, 1) := by decide +kernel
theorem dX7_pass_53 : decode cX7_pass 53 = .ok (.iload_n 3, 1) := by decide +kernel
theorem dX7_pass_54 : decode cX7_pass 54 = .ok (.aload_n 0, 1) := by decide +kernel
theorem dX7_pass_55 : decode cX7_pass 55 = .ok (.getfield 144, 3) := by decide +kernel
theorem dX7_pass_58 : decode cX7_pass 58 = .ok (.if_icmp .ge 72, 3) := by decide +kernel
theorem dX7_pass_61 : decode cX7_pass 61 = .ok (.aload_n 0, 1) := by decide +kernel
theorem dX7_pass_62 : decode cX7_pass 62 = .ok (.getfield 73, 3) := by decide +kernel
theorem dX7_pass_65 : decode cX7_pass 65 = .ok (.iload_n 3, 1) := by decide +kernel
theorem dX7_pass_66 : decode cX7_pass 66 = .ok (.iaload, 1) := by decide +kernel
theorem dX7_pass_67 : decode cX7_pass 67 = .ok (.ifCond .ne 57, 3) := by decide +kernel
theorem dX7_pass_70 : decode cX7_pass 70 = .ok (.aload_n 0, 1) := by decide +kernel
theorem dX7_pass_71 : decode cX7_pass 71 = .ok (.getfield 67, 3) := by decide +kernel
theorem dX7_pass_74 : decode cX7_pass 74 = .ok (.iload_n 3, 1) := by decide +kernel
theorem dX7_pass_75 : decode cX7_pass 75 = .ok (.iaload, 1) := by decide +kernel
theorem dX7_pass_76 : decode cX7_pass 76 = .ok (.aload_n 0, 1) := by decide +kernel
theorem dX7_pass_77 : decode cX7_pass 77 = .ok (.getfield 180, 3) := by decide +kernel
theorem dX7_pass_80 : decode cX7_pass 80 = .ok (.if_icmp .ne 44, 3) := by decide +kernel
theorem dX7_pass_83 : decode cX7_pass 83 = .ok (.aload_n 0, 1) := by decide +kernel
theorem dX7_pass_84 : decode cX7_pass 84 = .ok (.iload_n 3, 1) := by decide +kernel
theorem dX7_pass_85 : decode cX7_pass 85 = .ok (.invokevirtual 246, 3) := by decide +kernel
theorem dX7_pass_88 : decode cX7_pass 88 = .ok (.istore 4, 2) := by decide +kernel
theorem dX7_pass_90 : decode cX7_pass 90 = .ok (.aload_n 0, 1) := by decide +kernel
theorem dX7_pass_91 : decode cX7_pass 91 = .ok (.getfield 76, 3) := by decide +kernel
theorem dX7_pass_94 : decode cX7_pass 94 = .ok (.iload_n 3, 1) := by decide +kernel
theorem dX7_pass_95 : decode cX7_pass 95 = .ok (.iload 4, 2) := by decide +kernel
theorem dX7_pass_97 : decode cX7_pass 97 = .ok (.iastore, 1) := by decide +kernel
theorem dX7_pass_98 : decode cX7_pass 98 = .ok (.iload 4, 2) := by decide +kernel
theorem dX7_pass_100 : decode cX7_pass 100 = .ok (.ifCond .le 13, 3) := by decide +kernel
theorem dX7_pass_103 : decode cX7_pass 103 = .ok (.aload_n 0, 1) := by decide +kernel
theorem dX7_pass_104 : decode cX7_pass 104 = .ok (.getfield 73, 3) := by decide +kernel
theorem dX7_pass_107 : decode cX7_pass 107 = .ok (.iload_n 3, 1) := by decide +kernel
theorem dX7_pass_108 : decode cX7_pass 108 = .ok (.iconst 1, 1) := by decide +kernel
theorem dX7_pass_109 : decode cX7_pass 109 = .ok (.iastore, 1) := by decide +kernel
theorem dX7_pass_110 : decode cX7_pass 110 = .ok (.goto 8, 3) := by decide +kernel
theorem dX7_pass_113 : decode cX7_pass 113 = .ok (.aload_n 0, 1) := by decide +kernel
theorem dX7_pass_114 : decode cX7_pass 114 = .ok (.iload_n 3, 1) := by decide +kernel
theorem dX7_pass_115 : decode cX7_pass 115 = .ok (.invokevirtual 249, 3) := by decide +kernel
theorem dX7_pass_118 : decode cX7_pass 118 = .ok (.aload_n 0, 1) := by decide +kernel
theorem dX7_pass_119 : decode cX7_pass 119 = .ok (.iload_n 3, 1) := by decide +kernel
theorem dX7_pass_120 : decode cX7_pass 120 = .ok (.invokevirtual 203, 3) := by decide +kernel
theorem dX7_pass_123 : decode cX7_pass 123 = .ok (.pop, 1) := by decide +kernel
theorem dX7_pass_124 : decode cX7_pass 124 = .ok (.iinc 3 1, 3) := by decide +kernel
theorem dX7_pass_127 : decode cX7_pass 127 = .ok (.goto (-74), 3) := by decide +kernel
theorem dX7_pass_130 : decode cX7_pass 130 = .ok (.aload_n 0, 1) := by decide +kernel
theorem dX7_pass_131 : decode cX7_pass 131 = .ok (.dup, 1) := by decide +kernel
theorem dX7_pass_132 : decode cX7_pass 132 = .ok (.getfield 180, 3) := by decide +kernel
theorem dX7_pass_135 : decode cX7_pass 135 = .ok (.iconst 1, 1) := by decide +kernel
theorem dX7_pass_136 : decode cX7_pass 136 = .ok (.iadd, 1) := by decide +kernel
theorem dX7_pass_137 : decode cX7_pass 137 = .ok (.putfield 180, 3) := by decide +kernel
theorem dX7_pass_140 : decode cX7_pass 140 = .ok (.iinc 2 1, 3) := by decide +kernel
theorem dX7_pass_143 : decode cX7_pass 143 = .ok (.goto (-97), 3) := by decide +kernel
theorem dX7_pass_146 : decode cX7_pass 146 = .ok (.aload_n 0, 1) := by decide +kernel
theorem dX7_pass_147 : decode cX7_pass 147 = .ok (.getfield 180, 3) := by decide +kernel
theorem dX7_pass_150 : decode cX7_pass 150 = .ok (.ireturn, 1) := by decide +kernel
theorem dX7_now_0 : decode cX7_now 0 = .ok (.aload_n 0, 1) := by decide +kernel
theorem dX7_now_1 : decode cX7_now 1 = .ok (.iconst 0, 1) := by decide +kernel
theorem dX7_now_2 : decode cX7_now 2 = .ok (.putfield 133, 3) := by decide +kernel
theorem dX7_now_5 : decode cX7_now 5 = .ok (.aload_n 0, 1) := by decide +kernel
theorem dX7_now_6 : decode cX7_now 6 = .ok (.getfield 180, 3) := by decide +kernel
theorem dX7_now_9 : decode cX7_now 9 = .ok (.ireturn, 1) := by decide +kernel
theorem dX7_state_0 : decode cX7_state 0 = .ok (.aload_n 0, 1) := by decide +kernel
theorem dX7_state_1 : decode cX7_state 1 = .ok (.iload_n 1, 1) := by decide +kernel
theorem dX7_state_2 : decode cX7_state 2 = .ok (.invokevirtual 200, 3) := by decide +kernel
theorem dX7_state_5 : decode cX7_state 5 = .ok (.ifCond .ne 7, 3) := by decide +kernel
theorem dX7_state_8 : decode cX7_state 8 = .ok (.iconst 0, 1) := by decide +kernel
theorem dX7_state_9 : decode cX7_state 9 = .ok (.goto 33, 3) := by decide +kernel
theorem dX7_state_12 : decode cX7_state 12 = .ok (.aload_n 0, 1) := by decide +kernel
theorem dX7_state_13 : decode cX7_state 13 = .ok (.getfield 73, 3) := by decide +kernel
theorem dX7_state_16 : decode cX7_state 16 = .ok (.iload_n 1, 1) := by decide +kernel
theorem dX7_state_17 : decode cX7_state 17 = .ok (.iaload, 1) := by decide +kernel
theorem dX7_state_18 : decode cX7_state 18 = .ok (.iconst 1, 1) := by decide +kernel
theorem dX7_state_19 : decode cX7_state 19 = .ok (.if_icmp .ne 17, 3) := by decide +kernel
theorem dX7_state_22 : decode cX7_state 22 = .ok (.iconst 1, 1) := by decide +kernel
theorem dX7_state_23 : decode cX7_state 23 = .ok (.bipush 10, 2) := by decide +kernel
theorem dX7_state_25 : decode cX7_state 25 = .ok (.aload_n 0, 1) := by decide +kernel
theorem dX7_state_26 : decode cX7_state 26 = .ok (.getfield 76, 3) := by decide +kernel
theorem dX7_state_29 : decode cX7_state 29 = .ok (.iload_n 1, 1) := by decide +kernel
theorem dX7_state_30 : decode cX7_state 30 = .ok (.iaload, 1) := by decide +kernel
theorem dX7_state_31 : decode cX7_state 31 = .ok (.imul, 1) := by decide +kernel
theorem dX7_state_32 : decode cX7_state 32 = .ok (.iadd, 1) := by decide +kernel
theorem dX7_state_33 : decode cX7_state 33 = .ok (.goto 9, 3) := by decide +kernel
theorem dX7_state_36 : decode cX7_state 36 = .ok (.aload_n 0, 1) := by decide +kernel
theorem dX7_state_37 : decode cX7_state 37 = .ok (.getfield 73, 3) := by decide +kernel
theorem dX7_state_40 : decode cX7_state 40 = .ok (.iload_n 1, 1) := by decide +kernel
theorem dX7_state_41 : decode cX7_state 41 = .ok (.iaload, 1) := by decide +kernel
theorem dX7_state_42 : decode cX7_state 42 = .ok (.ireturn, 1) := by decide +kernel
theorem dX7_ends_0 : decode cX7_ends 0 = .ok (.aload_n 0, 1) := by decide +kernel
theorem dX7_ends_1 : decode cX7_ends 1 = .ok (.iload_n 1, 1) := by decide +kernel
theorem dX7_ends_2 : decode cX7_ends 2 = .ok (.invokevirtual 200, 3) := by decide +kernel
theorem dX7_ends_5 : decode cX7_ends 5 = .ok (.ifCond .eq 11, 3) := by decide +kernel
theorem dX7_ends_8 : decode cX7_ends 8 = .ok (.aload_n 0, 1) := by decide +kernel
theorem dX7_ends_9 : decode cX7_ends 9 = .ok (.iload_n 1, 1) := by decide +kernel
theorem dX7_ends_10 : decode cX7_ends 10 = .ok (.invokevirtual 174, 3) := by decide +kernel
theorem dX7_ends_13 : decode cX7_ends 13 = .ok (.goto 4, 3) := by decide +kernel
theorem dX7_ends_16 : decode cX7_ends 16 = .ok (.iconst 0, 1) := by decide +kernel
theorem dX7_ends_17 : decode cX7_ends 17 = .ok (.ireturn, 1) := by decide +kernel
theorem dX7_busAfter_0 : decode cX7_busAfter 0 = .ok (.aload_n 0, 1) := by decide +kernel
theorem dX7_busAfter_1 : decode cX7_busAfter 1 = .ok (.iload_n 1, 1) := by decide +kernel
theorem dX7_busAfter_2 : decode cX7_busAfter 2 = .ok (.invokevirtual 200, 3) := by decide +kernel
theorem dX7_busAfter_5 : decode cX7_busAfter 5 = .ok (.ifCond .ne 5, 3) := by decide +kernel
theorem dX7_busAfter_8 : decode cX7_busAfter 8 = .ok (.iconst 0, 1) := by decide +kernel
theorem dX7_busAfter_9 : decode cX7_busAfter 9 = .ok (.ireturn, 1) := by decide +kernel
theorem dX7_busAfter_10 : decode cX7_busAfter 10 = .ok (.aload_n 0, 1) := by decide +kernel
theorem dX7_busAfter_11 : decode cX7_busAfter 11 = .ok (.getfield 49, 3) := by decide +kernel
theorem dX7_busAfter_14 : decode cX7_busAfter 14 = .ok (.aload_n 0, 1) := by decide +kernel
theorem dX7_busAfter_15 : decode cX7_busAfter 15 = .ok (.getfield 64, 3) := by decide +kernel
theorem dX7_busAfter_18 : decode cX7_busAfter 18 = .ok (.iload_n 1, 1) := by decide +kernel
theorem dX7_busAfter_19 : decode cX7_busAfter 19 = .ok (.iaload, 1) := by decide +kernel
theorem dX7_busAfter_20 : decode cX7_busAfter 20 = .ok (.iaload, 1) := by decide +kernel
theorem dX7_busAfter_21 : decode cX7_busAfter 21 = .ok (.istore_n 2, 1) := by decide +kernel
theorem dX7_busAfter_22 : decode cX7_busAfter 22 = .ok (.aload_n 0, 1) := by decide +kernel
theorem dX7_busAfter_23 : decode cX7_busAfter 23 = .ok (.getfield 73, 3) := by decide +kernel
theorem dX7_busAfter_26 : decode cX7_busAfter 26 = .ok (.iload_n 1, 1) := by decide +kernel
theorem dX7_busAfter_27 : decode cX7_busAfter 27 = .ok (.iaload, 1) := by decide +kernel
theorem dX7_busAfter_28 : decode cX7_busAfter 28 = .ok (.iconst 2, 1) := by decide +kernel
theorem dX7_busAfter_29 : decode cX7_busAfter 29 = .ok (.if_icmp .ne 7, 3) := by decide +kernel
theorem dX7_busAfter_32 : decode cX7_busAfter 32 = .ok (.iload_n 2, 1) := by decide +kernel
theorem dX7_busAfter_33 : decode cX7_busAfter 33 = .ok (.ifCond .ne 5, 3) := by decide +kernel
theorem dX7_busAfter_36 : decode cX7_busAfter 36 = .ok (.iconst (-1), 1) := by decide +kernel
theorem dX7_busAfter_37 : decode cX7_busAfter 37 = .ok (.ireturn, 1) := by decide +kernel
theorem dX7_busAfter_38 : decode cX7_busAfter 38 = .ok (.aload_n 0, 1) := by decide +kernel
theorem dX7_busAfter_39 : decode cX7_busAfter 39 = .ok (.getfield 52, 3) := by decide +kernel
theorem dX7_busAfter_42 : decode cX7_busAfter 42 = .ok (.aload_n 0, 1) := by decide +kernel
theorem dX7_busAfter_43 : decode cX7_busAfter 43 = .ok (.getfield 64, 3) := by decide +kernel
theorem dX7_busAfter_46 : decode cX7_busAfter 46 = .ok (.iload_n 1, 1) := by decide +kernel
theorem dX7_busAfter_47 : decode cX7_busAfter 47 = .ok (.iaload, 1) := by decide +kernel
theorem dX7_busAfter_48 : decode cX7_busAfter 48 = .ok (.iaload, 1) := by decide +kernel
theorem dX7_busAfter_49 : decode cX7_busAfter 49 = .ok (.aload_n 0, 1) := by decide +kernel
theorem dX7_busAfter_50 : decode cX7_busAfter 50 = .ok (.iload_n 1, 1) := by decide +kernel
theorem dX7_busAfter_51 : decode cX7_busAfter 51 = .ok (.invokevirtual 174, 3) := by decide +kernel
theorem dX7_busAfter_54 : decode cX7_busAfter 54 = .ok (.iload_n 2, 1) := by decide +kernel
theorem dX7_busAfter_55 : decode cX7_busAfter 55 = .ok (.irem, 1) := by decide +kernel
theorem dX7_busAfter_56 : decode cX7_busAfter 56 = .ok (.isub, 1) := by decide +kernel
theorem dX7_busAfter_57 : decode cX7_busAfter 57 = .ok (.iload_n 2, 1) := by decide +kernel
theorem dX7_busAfter_58 : decode cX7_busAfter 58 = .ok (.iadd, 1) := by decide +kernel
theorem dX7_busAfter_59 : decode cX7_busAfter 59 = .ok (.iload_n 2, 1) := by decide +kernel
theorem dX7_busAfter_60 : decode cX7_busAfter 60 = .ok (.irem, 1) := by decide +kernel
theorem dX7_busAfter_61 : decode cX7_busAfter 61 = .ok (.ireturn, 1) := by decide +kernel
theorem dX7_place_0 : decode cX7_place 0 = .ok (.aload_n 0, 1) := by decide +kernel
theorem dX7_place_1 : decode cX7_place 1 = .ok (.aload_n 0, 1) := by decide +kernel
theorem dX7_place_2 : decode cX7_place 2 = .ok (.iload_n 1, 1) := by decide +kernel
theorem dX7_place_3 : decode cX7_place 3 = .ok (.invokevirtual 154, 3) := by decide +kernel
theorem dX7_place_6 : decode cX7_place 6 = .ok (.ifCond .eq 7, 3) := by decide +kernel
theorem dX7_place_9 : decode cX7_place 9 = .ok (.iconst 0, 1) := by decide +kernel
theorem dX7_place_10 : decode cX7_place 10 = .ok (.goto 4, 3) := by decide +kernel
theorem dX7_place_13 : decode cX7_place 13 = .ok (.iconst 1, 1) := by decide +kernel
theorem dX7_place_14 : decode cX7_place 14 = .ok (.putfield 133, 3) := by decide +kernel
theorem dX7_place_17 : decode cX7_place 17 = .ok (.aload_n 0, 1) := by decide +kernel
theorem dX7_place_18 : decode cX7_place 18 = .ok (.getfield 133, 3) := by decide +kernel
theorem dX7_place_21 : decode cX7_place 21 = .ok (.ifCond .ne 15, 3) := by decide +kernel
theorem dX7_place_24 : decode cX7_place 24 = .ok (.aload_n 0, 1) := by decide +kernel
theorem dX7_place_25 : decode cX7_place 25 = .ok (.iload_n 1, 1) := by decide +kernel
theorem dX7_place_26 : decode cX7_place 26 = .ok (.aload_n 0, 1) := by decide +kernel
theorem dX7_place_27 : decode cX7_place 27 = .ok (.getfield 180, 3) := by decide +kernel
theorem dX7_place_30 : decode cX7_place 30 = .ok (.invokevirtual 183, 3) := by decide +kernel
theorem dX7_place_33 : decode cX7_place 33 = .ok (.goto 4, 3) := by decide +kernel
theorem dX7_place_36 : decode cX7_place 36 = .ok (.iconst 0, 1) := by decide +kernel
theorem dX7_place_37 : decode cX7_place 37 = .ok (.ireturn, 1) := by decide +kernel
theorem dX7_placeByLine_0 : decode cX7_placeByLine 0 = .ok (.aload_n 0, 1) := by decide +kernel
theorem dX7_placeByLine_1 : decode cX7_placeByLine 1 = .ok (.aload_n 0, 1) := by decide +kernel
theorem dX7_placeByLine_2 : decode cX7_placeByLine 2 = .ok (.iload_n 1, 1) := by decide +kernel
theorem dX7_placeByLine_3 : decode cX7_placeByLine 3 = .ok (.invokevirtual 154, 3) := by decide +kernel
theorem dX7_placeByLine_6 : decode cX7_placeByLine 6 = .ok (.ifCond .ne 7, 3) := by decide +kernel
theorem dX7_placeByLine_9 : decode cX7_placeByLine 9 = .ok (.iconst 1, 1) := by decide +kernel
theorem dX7_placeByLine_10 : decode cX7_placeByLine 10 = .ok (.goto 20, 3) := by decide +kernel
theorem dX7_placeByLine_13 : decode cX7_placeByLine 13 = .ok (.iload_n 2, 1) := by decide +kernel
theorem dX7_placeByLine_14 : decode cX7_placeByLine 14 = .ok (.iconst 0, 1) := by decide +kernel
theorem dX7_placeByLine_15 : decode cX7_placeByLine 15 = .ok (.aload_n 0, 1) := by decide +kernel
theorem dX7_placeByLine_16 : decode cX7_placeByLine 16 = .ok (.getfield 180, 3) := by decide +kernel
theorem dX7_placeByLine_19 : decode cX7_placeByLine 19 = .ok (.invokestatic 137, 3) := by decide +kernel
theorem dX7_placeByLine_22 : decode cX7_placeByLine 22 = .ok (.ifCond .ne 7, 3) := by decide +kernel
theorem dX7_placeByLine_25 : decode cX7_placeByLine 25 = .ok (.iconst 2, 1) := by decide +kernel
theorem dX7_placeByLine_26 : decode cX7_placeByLine 26 = .ok (.goto 4, 3) := by decide +kernel
theorem dX7_placeByLine_29 : decode cX7_placeByLine 29 = .ok (.iconst 0, 1) := by decide +kernel
theorem dX7_placeByLine_30 : decode cX7_placeByLine 30 = .ok (.putfield 133, 3) := by decide +kernel
theorem dX7_placeByLine_33 : decode cX7_placeByLine 33 = .ok (.aload_n 0, 1) := by decide +kernel
theorem dX7_placeByLine_34 : decode cX7_placeByLine 34 = .ok (.getfield 133, 3) := by decide +kernel
theorem dX7_placeByLine_37 : decode cX7_placeByLine 37 = .ok (.ifCond .ne 12, 3) := by decide +kernel
theorem dX7_placeByLine_40 : decode cX7_placeByLine 40 = .ok (.aload_n 0, 1) := by decide +kernel
theorem dX7_placeByLine_41 : decode cX7_placeByLine 41 = .ok (.iload_n 1, 1) := by decide +kernel
theorem dX7_placeByLine_42 : decode cX7_placeByLine 42 = .ok (.iload_n 2, 1) := by decide +kernel
theorem dX7_placeByLine_43 : decode cX7_placeByLine 43 = .ok (.invokevirtual 183, 3) := by decide +kernel
theorem dX7_placeByLine_46 : decode cX7_placeByLine 46 = .ok (.goto 4, 3) := by decide +kernel
theorem dX7_placeByLine_49 : decode cX7_placeByLine 49 = .ok (.iconst 0, 1) := by decide +kernel
theorem dX7_placeByLine_50 : decode cX7_placeByLine 50 = .ok (.ireturn, 1) := by decide +kernel
theorem dX7_fuel_0 : decode cX7_fuel 0 = .ok (.aload_n 0, 1) := by decide +kernel
theorem dX7_fuel_1 : decode cX7_fuel 1 = .ok (.aload_n 0, 1) := by decide +kernel
theorem dX7_fuel_2 : decode cX7_fuel 2 = .ok (.iload_n 1, 1) := by decide +kernel
theorem dX7_fuel_3 : decode cX7_fuel 3 = .ok (.invokevirtual 154, 3) := by decide +kernel
theorem dX7_fuel_6 : decode cX7_fuel 6 = .ok (.ifCond .eq 7, 3) := by decide +kernel
theorem dX7_fuel_9 : decode cX7_fuel 9 = .ok (.iconst 0, 1) := by decide +kernel
theorem dX7_fuel_10 : decode cX7_fuel 10 = .ok (.goto 4, 3) := by decide +kernel
theorem dX7_fuel_13 : decode cX7_fuel 13 = .ok (.iconst 1, 1) := by decide +kernel
theorem dX7_fuel_14 : decode cX7_fuel 14 = .ok (.putfield 133, 3) := by decide +kernel
theorem dX7_fuel_17 : decode cX7_fuel 17 = .ok (.aload_n 0, 1) := by decide +kernel
theorem dX7_fuel_18 : decode cX7_fuel 18 = .ok (.getfield 133, 3) := by decide +kernel
theorem dX7_fuel_21 : decode cX7_fuel 21 = .ok (.ifCond .ne 12, 3) := by decide +kernel
theorem dX7_fuel_24 : decode cX7_fuel 24 = .ok (.aload_n 0, 1) := by decide +kernel
theorem dX7_fuel_25 : decode cX7_fuel 25 = .ok (.getfield 28, 3) := by decide +kernel
theorem dX7_fuel_28 : decode cX7_fuel 28 = .ok (.iload_n 1, 1) := by decide +kernel
theorem dX7_fuel_29 : decode cX7_fuel 29 = .ok (.iaload, 1) := by decide +kernel
theorem dX7_fuel_30 : decode cX7_fuel 30 = .ok (.goto 4, 3) := by decide +kernel
theorem dX7_fuel_33 : decode cX7_fuel 33 = .ok (.iconst 0, 1) := by decide +kernel
theorem dX7_fuel_34 : decode cX7_fuel 34 = .ok (.ireturn, 1) := by decide +kernel
theorem dX7_book_0 : decode cX7_book 0 = .ok (.aload_n 0, 1) := by decide +kernel
theorem dX7_book_1 : decode cX7_book 1 = .ok (.iload_n 1, 1) := by decide +kernel
theorem dX7_book_2 : decode cX7_book 2 = .ok (.iconst 0, 1) := by decide +kernel
theorem dX7_book_3 : decode cX7_book 3 = .ok (.bipush 9, 2) := by decide +kernel
theorem dX7_book_5 : decode cX7_book 5 = .ok (.invokestatic 137, 3) := by decide +kernel
theorem dX7_book_8 : decode cX7_book 8 = .ok (.ifCond .eq 17, 3) := by decide +kernel
theorem dX7_book_11 : decode cX7_book 11 = .ok (.iload_n 2, 1) := by decide +kernel
theorem dX7_book_12 : decode cX7_book 12 = .ok (.iconst 0, 1) := by decide +kernel
theorem dX7_book_13 : decode cX7_book 13 = .ok (.aload_n 0, 1) := by decide +kernel
theorem dX7_book_14 : decode cX7_book 14 = .ok (.getfield 144, 3) := by decide +kernel
theorem dX7_book_17 : decode cX7_book 17 = .ok (.iconst 1, 1) := by decide +kernel
theorem dX7_book_18 : decode cX7_book 18 = .ok (.isub, 1) := by decide +kernel
theorem dX7_book_19 : decode cX7_book 19 = .ok (.invokestatic 137, 3) := by decide +kernel
theorem dX7_book_22 : decode cX7_book 22 = .ok (.ifCond .ne 7, 3) := by decide +kernel
theorem dX7_book_25 : decode cX7_book 25 = .ok (.iconst 1, 1) := by decide +kernel
theorem dX7_book_26 : decode cX7_book 26 = .ok (.goto 4, 3) := by decide +kernel
theorem dX7_book_29 : decode cX7_book 29 = .ok (.iconst 0, 1) := by decide +kernel
theorem dX7_book_30 : decode cX7_book 30 = .ok (.putfield 133, 3) := by decide +kernel
theorem dX7_book_33 : decode cX7_book 33 = .ok (.aload_n 0, 1) := by decide +kernel
theorem dX7_book_34 : decode cX7_book 34 = .ok (.getfield 133, 3) := by decide +kernel
theorem dX7_book_37 : decode cX7_book 37 = .ok (.ifCond .ne 105, 3) := by decide +kernel
theorem dX7_book_40 : decode cX7_book 40 = .ok (.iload_n 3, 1) := by decide +kernel
theorem dX7_book_41 : decode cX7_book 41 = .ok (.ifCond .ne 26, 3) := by decide +kernel
theorem dX7_book_44 : decode cX7_book 44 = .ok (.iload 4, 2) := by decide +kernel
theorem dX7_book_46 : decode cX7_book 46 = .ok (.ifCond .ne 17, 3) := by decide +kernel
theorem dX7_book_49 : decode cX7_book 49 = .ok (.iload 5, 2) := by decide +kernel
theorem dX7_book_51 : decode cX7_book 51 = .ok (.ifCond .ne 12, 3) := by decide +kernel
theorem dX7_book_54 : decode cX7_book 54 = .ok (.iload 6, 2) := by decide +kernel
theorem dX7_book_56 : decode cX7_book 56 = .ok (.ifCond .ne 7, 3) := by decide +kernel
theorem dX7_book_59 : decode cX7_book 59 = .ok (.iconst 1, 1) := by decide +kernel
theorem dX7_book_60 : decode cX7_book 60 = .ok (.goto 35, 3) := by decide +kernel
theorem dX7_book_63 : decode cX7_book 63 = .ok (.iconst 0, 1) := by decide +kernel
theorem dX7_book_64 : decode cX7_book 64 = .ok (.goto 31, 3) := by decide +kernel
theorem dX7_book_67 : decode cX7_book 67 = .ok (.iload 4, 2) := by decide +kernel
theorem dX7_book_69 : decode cX7_book 69 = .ok (.iconst 1, 1) := by decide +kernel
theorem dX7_book_70 : decode cX7_book 70 = .ok (.bipush 40, 2) := by decide +kernel
theorem dX7_book_72 : decode cX7_book 72 = .ok (.invokestatic 137, 3) := by decide +kernel
theorem dX7_book_75 : decode cX7_book 75 = .ok (.ifCond .eq 19, 3) := by decide +kernel
theorem dX7_book_78 : decode cX7_book 78 = .ok (.iload 5, 2) := by decide +kernel
theorem dX7_book_80 : decode cX7_book 80 = .ok (.iconst 1, 1) := by decide +kernel
theorem dX7_book_81 : decode cX7_book 81 = .ok (.sipush 200, 3) := by decide +kernel
theorem dX7_book_84 : decode cX7_book 84 = .ok (.invokestatic 137, 3) := by decide +kernel
theorem dX7_book_87 : decode cX7_book 87 = .ok (.ifCond .eq 7, 3) := by decide +kernel
theorem dX7_book_90 : decode cX7_book 90 = .ok (.iconst 1, 1) := by decide +kernel
theorem dX7_book_91 : decode cX7_book 91 = .ok (.goto 4, 3) := by decide +kernel
theorem dX7_book_94 : decode cX7_book 94 = .ok (.iconst 0, 1) := by decide +kernel
theorem dX7_book_95 : decode cX7_book 95 = .ok (.istore 7, 2) := by decide +kernel
theorem dX7_book_97 : decode cX7_book 97 = .ok (.aload_n 0, 1) := by decide +kernel
theorem dX7_book_98 : decode cX7_book 98 = .ok (.iload_n 3, 1) := by decide +kernel
theorem dX7_book_99 : decode cX7_book 99 = .ok (.iconst 0, 1) := by decide +kernel
theorem dX7_book_100 : decode cX7_book 100 = .ok (.iconst 3, 1) := by decide +kernel
theorem dX7_book_101 : decode cX7_book 101 = .ok (.invokestatic 137, 3) := by decide +kernel
theorem dX7_book_104 : decode cX7_book 104 = .ok (.ifCond .eq 8, 3) := by decide +kernel
theorem dX7_book_107 : decode cX7_book 107 = .ok (.iload 7, 2) := by decide +kernel
theorem dX7_book_109 : decode cX7_book 109 = .ok (.ifCond .ne 7, 3) := by decide +kernel
theorem dX7_book_112 : decode cX7_book 112 = .ok (.iconst 2, 1) := by decide +kernel
theorem dX7_book_113 : decode cX7_book 113 = .ok (.goto 26, 3) := by decide +kernel
theorem dX7_book_116 : decode cX7_book 116 = .ok (.aload_n 0, 1) := by decide +kernel
theorem dX7_book_117 : decode cX7_book 117 = .ok (.getfield 73, 3) := by decide +kernel
theorem dX7_book_120 : decode cX7_book 120 = .ok (.iload_n 2, 1) := by decide +kernel
theorem dX7_book_121 : decode cX7_book 121 = .ok (.iaload, 1) := by decide +kernel
theorem dX7_book_122 : decode cX7_book 122 = .ok (.ifCond .ne 12, 3) := by decide +kernel
theorem dX7_book_125 : decode cX7_book 125 = .ok (.aload_n 0, 1) := by decide +kernel
theorem dX7_book_126 : decode cX7_book 126 = .ok (.getfield 147, 3) := by decide +kernel
theorem dX7_book_129 : decode cX7_book 129 = .ok (.bipush 40, 2) := by decide +kernel
theorem dX7_book_131 : decode cX7_book 131 = .ok (.if_icmp .ne 7, 3) := by decide +kernel
theorem dX7_book_134 : decode cX7_book 134 = .ok (.iconst 3, 1) := by decide +kernel
theorem dX7_book_135 : decode cX7_book 135 = .ok (.goto 4, 3) := by decide +kernel
theorem dX7_book_138 : decode cX7_book 138 = .ok (.iconst 0, 1) := by decide +kernel
theorem dX7_book_139 : decode cX7_book 139 = .ok (.putfield 133, 3) := by decide +kernel
theorem dX7_book_142 : decode cX7_book 142 = .ok (.aload_n 0, 1) := by decide +kernel
theorem dX7_book_143 : decode cX7_book 143 = .ok (.getfield 133, 3) := by decide +kernel
theorem dX7_book_146 : decode cX7_book 146 = .ok (.ifCond .le 5, 3) := by decide +kernel
theorem dX7_book_149 : decode cX7_book 149 = .ok (.iconst 0, 1) := by decide +kernel
theorem dX7_book_150 : decode cX7_book 150 = .ok (.ireturn, 1) := by decide +kernel
theorem dX7_book_151 : decode cX7_book 151 = .ok (.iload_n 3, 1) := by decide +kernel
theorem dX7_book_152 : decode cX7_book 152 = .ok (.ifCond .ne 7, 3) := by decide +kernel
theorem dX7_book_155 : decode cX7_book 155 = .ok (.iconst 2, 1) := by decide +kernel
theorem dX7_book_156 : decode cX7_book 156 = .ok (.goto 24, 3) := by decide +kernel
theorem dX7_book_159 : decode cX7_book 159 = .ok (.iload_n 3, 1) := by decide +kernel
theorem dX7_book_160 : decode cX7_book 160 = .ok (.iconst 1, 1) := by decide +kernel
theorem dX7_book_161 : decode cX7_book 161 = .ok (.if_icmp .ne 7, 3) := by decide +kernel
theorem dX7_book_164 : decode cX7_book 164 = .ok (.iconst 5, 1) := by decide +kernel
theorem dX7_book_165 : decode cX7_book 165 = .ok (.goto 15, 3) := by decide +kernel
theorem dX7_book_168 : decode cX7_book 168 = .ok (.iload_n 3, 1) := by decide +kernel
theorem dX7_book_169 : decode cX7_book 169 = .ok (.iconst 2, 1) := by decide +kernel
theorem dX7_book_170 : decode cX7_book 170 = .ok (.if_icmp .ne 8, 3) := by decide +kernel
theorem dX7_book_173 : decode cX7_book 173 = .ok (.bipush 8, 2) := by decide +kernel
theorem dX7_book_175 : decode cX7_book 175 = .ok (.goto 5, 3) := by decide +kernel
theorem dX7_book_178 : decode cX7_book 178 = .ok (.bipush 20, 2) := by decide +kernel
theorem dX7_book_180 : decode cX7_book 180 = .ok (.aload_n 0, 1) := by decide +kernel
theorem dX7_book_181 : decode cX7_book 181 = .ok (.getfield 70, 3) := by decide +kernel
theorem dX7_book_184 : decode cX7_book 184 = .ok (.iload_n 2, 1) := by decide +kernel
theorem dX7_book_185 : decode cX7_book 185 = .ok (.iaload, 1) := by decide +kernel
theorem dX7_book_186 : decode cX7_book 186 = .ok (.imul, 1) := by decide +kernel
theorem dX7_book_187 : decode cX7_book 187 = .ok (.istore 7, 2) := by decide +kernel
theorem dX7_book_189 : decode cX7_book 189 = .ok (.aload_n 0, 1) := by decide +kernel
theorem dX7_book_190 : decode cX7_book 190 = .ok (.getfield 55, 3) := by decide +kernel
theorem dX7_book_193 : decode cX7_book 193 = .ok (.iload_n 1, 1) := by decide +kernel
theorem dX7_book_194 : decode cX7_book 194 = .ok (.iaload, 1) := by decide +kernel
theorem dX7_book_195 : decode cX7_book 195 = .ok (.iconst 1, 1) := by decide +kernel
theorem dX7_book_196 : decode cX7_book 196 = .ok (.isub, 1) := by decide +kernel
theorem dX7_book_197 : decode cX7_book 197 = .ok (.istore 8, 2) := by decide +kernel
theorem dX7_book_199 : decode cX7_book 199 = .ok (.iload 8, 2) := by decide +kernel
theorem dX7_book_201 : decode cX7_book 201 = .ok (.iconst (-1), 1) := by decide +kernel
theorem dX7_book_202 : decode cX7_book 202 = .ok (.if_icmp .eq 29, 3) := by decide +kernel
theorem dX7_book_205 : decode cX7_book 205 = .ok (.iload 8, 2) := by decide +kernel
theorem dX7_book_207 : decode cX7_book 207 = .ok (.aload_n 0, 1) := by decide +kernel
theorem dX7_book_208 : decode cX7_book 208 = .ok (.getfield 61, 3) := by decide +kernel
theorem dX7_book_211 : decode cX7_book 211 = .ok (.iload_n 2, 1) := by decide +kernel
theorem dX7_book_212 : decode cX7_book 212 = .ok (.iaload, 1) := by decide +kernel
theorem dX7_book_213 : decode cX7_book 213 = .ok (.if_icmp .eq 14, 3) := by decide +kernel
theorem dX7_book_216 : decode cX7_book 216 = .ok (.iload 8, 2) := by decide +kernel
theorem dX7_book_218 : decode cX7_book 218 = .ok (.aload_n 0, 1) := by decide +kernel
theorem dX7_book_219 : decode cX7_book 219 = .ok (.getfield 64, 3) := by decide +kernel
theorem dX7_book_222 : decode cX7_book 222 = .ok (.iload_n 2, 1) := by decide +kernel
theorem dX7_book_223 : decode cX7_book 223 = .ok (.iaload, 1) := by decide +kernel
theorem dX7_book_224 : decode cX7_book 224 = .ok (.if_icmp .ne 7, 3) := by decide +kernel
theorem dX7_book_227 : decode cX7_book 227 = .ok (.iconst 1, 1) := by decide +kernel
theorem dX7_book_228 : decode cX7_book 228 = .ok (.goto 4, 3) := by decide +kernel
theorem dX7_book_231 : decode cX7_book 231 = .ok (.iconst 0, 1) := by decide +kernel
theorem dX7_book_232 : decode cX7_book 232 = .ok (.istore 9, 2) := by decide +kernel
theorem dX7_book_234 : decode cX7_book 234 = .ok (.aload_n 0, 1) := by decide +kernel
theorem dX7_book_235 : decode cX7_book 235 = .ok (.getfield 88, 3) := by decide +kernel
theorem dX7_book_238 : decode cX7_book 238 = .ok (.aload_n 0, 1) := by decide +kernel
theorem dX7_book_239 : decode cX7_book 239 = .ok (.getfield 147, 3) := by decide +kernel
theorem dX7_book_242 : decode cX7_book 242 = .ok (.iload_n 1, 1) := by decide +kernel
theorem dX7_book_243 : decode cX7_book 243 = .ok (.iastore, 1) := by decide +kernel
theorem dX7_book_244 : decode cX7_book 244 = .ok (.aload_n 0, 1) := by decide +kernel
theorem dX7_book_245 : decode cX7_book 245 = .ok (.getfield 91, 3) := by decide +kernel
theorem dX7_book_248 : decode cX7_book 248 = .ok (.aload_n 0, 1) := by decide +kernel
theorem dX7_book_249 : decode cX7_book 249 = .ok (.getfield 147, 3) := by decide +kernel
theorem dX7_book_252 : decode cX7_book 252 = .ok (.iload_n 2, 1) := by decide +kernel
theorem dX7_book_253 : decode cX7_book 253 = .ok (.iconst 1, 1) := by decide +kernel
theorem dX7_book_254 : decode cX7_book 254 = .ok (.iadd, 1) := by decide +kernel
theorem dX7_book_255 : decode cX7_book 255 = .ok (.iastore, 1) := by decide +kernel
theorem dX7_book_256 : decode cX7_book 256 = .ok (.aload_n 0, 1) := by decide +kernel
theorem dX7_book_257 : decode cX7_book 257 = .ok (.getfield 94, 3) := by decide +kernel
theorem dX7_book_260 : decode cX7_book 260 = .ok (.aload_n 0, 1) := by decide +kernel
theorem dX7_book_261 : decode cX7_book 261 = .ok (.getfield 147, 3) := by decide +kernel
theorem dX7_book_264 : decode cX7_book 264 = .ok (.iload_n 3, 1) := by decide +kernel
theorem dX7_book_265 : decode cX7_book 265 = .ok (.iastore, 1) := by decide +kernel
theorem dX7_book_266 : decode cX7_book 266 = .ok (.aload_n 0, 1) := by decide +kernel
theorem dX7_book_267 : decode cX7_book 267 = .ok (.getfield 97, 3) := by decide +kernel
theorem dX7_book_270 : decode cX7_book 270 = .ok (.aload_n 0, 1) := by decide +kernel
theorem dX7_book_271 : decode cX7_book 271 = .ok (.getfield 147, 3) := by decide +kernel
theorem dX7_book_274 : decode cX7_book 274 = .ok (.iload 4, 2) := by decide +kernel
theorem dX7_book_276 : decode cX7_book 276 = .ok (.iastore, 1) := by decide +kernel
theorem dX7_book_277 : decode cX7_book 277 = .ok (.aload_n 0, 1) := by decide +kernel
theorem dX7_book_278 : decode cX7_book 278 = .ok (.getfield 100, 3) := by decide +kernel
theorem dX7_book_281 : decode cX7_book 281 = .ok (.aload_n 0, 1) := by decide +kernel
theorem dX7_book_282 : decode cX7_book 282 = .ok (.getfield 147, 3) := by decide +kernel
theorem dX7_book_285 : decode cX7_book 285 = .ok (.iload 5, 2) := by decide +kernel
theorem dX7_book_287 : decode cX7_book 287 = .ok (.iastore, 1) := by decide +kernel
theorem dX7_book_288 : decode cX7_book 288 = .ok (.aload_n 0, 1) := by decide +kernel
theorem dX7_book_289 : decode cX7_book 289 = .ok (.getfield 103, 3) := by decide +kernel
theorem dX7_book_292 : decode cX7_book 292 = .ok (.aload_n 0, 1) := by decide +kernel
theorem dX7_book_293 : decode cX7_book 293 = .ok (.getfield 147, 3) := by decide +kernel
theorem dX7_book_296 : decode cX7_book 296 = .ok (.iload 6, 2) := by decide +kernel
theorem dX7_book_298 : decode cX7_book 298 = .ok (.ifCond .eq 7, 3) := by decide +kernel
theorem dX7_book_301 : decode cX7_book 301 = .ok (.iconst 1, 1) := by decide +kernel
theorem dX7_book_302 : decode cX7_book 302 = .ok (.goto 4, 3) := by decide +kernel
theorem dX7_book_305 : decode cX7_book 305 = .ok (.iconst 0, 1) := by decide +kernel
theorem dX7_book_306 : decode cX7_book 306 = .ok (.iastore, 1) := by decide +kernel
theorem dX7_book_307 : decode cX7_book 307 = .ok (.aload_n 0, 1) := by decide +kernel
theorem dX7_book_308 : decode cX7_book 308 = .ok (.getfield 106, 3) := by decide +kernel
theorem dX7_book_311 : decode cX7_book 311 = .ok (.aload_n 0, 1) := by decide +kernel
theorem dX7_book_312 : decode cX7_book 312 = .ok (.getfield 147, 3) := by decide +kernel
theorem dX7_book_315 : decode cX7_book 315 = .ok (.iload 9, 2) := by decide +kernel
theorem dX7_book_317 : decode cX7_book 317 = .ok (.ifCond .eq 7, 3) := by decide +kernel
theorem dX7_book_320 : decode cX7_book 320 = .ok (.iconst 1, 1) := by decide +kernel
theorem dX7_book_321 : decode cX7_book 321 = .ok (.goto 4, 3) := by decide +kernel
theorem dX7_book_324 : decode cX7_book 324 = .ok (.iconst 0, 1) := by decide +kernel
theorem dX7_book_325 : decode cX7_book 325 = .ok (.iastore, 1) := by decide +kernel
theorem dX7_book_326 : decode cX7_book 326 = .ok (.aload_n 0, 1) := by decide +kernel
theorem dX7_book_327 : decode cX7_book 327 = .ok (.getfield 109, 3) := by decide +kernel
theorem dX7_book_330 : decode cX7_book 330 = .ok (.aload_n 0, 1) := by decide +kernel
theorem dX7_book_331 : decode cX7_book 331 = .ok (.getfield 147, 3) := by decide +kernel
theorem dX7_book_334 : decode cX7_book 334 = .ok (.iload 9, 2) := by decide +kernel
theorem dX7_book_336 : decode cX7_book 336 = .ok (.ifCond .eq 10, 3) := by decide +kernel
theorem dX7_book_339 : decode cX7_book 339 = .ok (.iload 7, 2) := by decide +kernel
theorem dX7_book_341 : decode cX7_book 341 = .ok (.iconst 2, 1) := by decide +kernel
theorem dX7_book_342 : decode cX7_book 342 = .ok (.idiv, 1) := by decide +kernel
theorem dX7_book_343 : decode cX7_book 343 = .ok (.goto 5, 3) := by decide +kernel
theorem dX7_book_346 : decode cX7_book 346 = .ok (.iload 7, 2) := by decide +kernel
theorem dX7_book_348 : decode cX7_book 348 = .ok (.iastore, 1) := by decide +kernel
theorem dX7_book_349 : decode cX7_book 349 = .ok (.aload_n 0, 1) := by decide +kernel
theorem dX7_book_350 : decode cX7_book 350 = .ok (.getfield 112, 3) := by decide +kernel
theorem dX7_book_353 : decode cX7_book 353 = .ok (.aload_n 0, 1) := by decide +kernel
theorem dX7_book_354 : decode cX7_book 354 = .ok (.getfield 147, 3) := by decide +kernel
theorem dX7_book_357 : decode cX7_book 357 = .ok (.iload 7, 2) := by decide +kernel
theorem dX7_book_359 : decode cX7_book 359 = .ok (.aload_n 0, 1) := by decide +kernel
theorem dX7_book_360 : decode cX7_book 360 = .ok (.getfield 109, 3) := by decide +kernel
theorem dX7_book_363 : decode cX7_book 363 = .ok (.aload_n 0, 1) := by decide +kernel
theorem dX7_book_364 : decode cX7_book 364 = .ok (.getfield 147, 3) := by decide +kernel
theorem dX7_book_367 : decode cX7_book 367 = .ok (.iaload, 1) := by decide +kernel
theorem dX7_book_368 : decode cX7_book 368 = .ok (.isub, 1) := by decide +kernel
theorem dX7_book_369 : decode cX7_book 369 = .ok (.iastore, 1) := by decide +kernel
theorem dX7_book_370 : decode cX7_book 370 = .ok (.aload_n 0, 1) := by decide +kernel
theorem dX7_book_371 : decode cX7_book 371 = .ok (.dup, 1) := by decide +kernel
theorem dX7_book_372 : decode cX7_book 372 = .ok (.getfield 190, 3) := by decide +kernel
theorem dX7_book_375 : decode cX7_book 375 = .ok (.aload_n 0, 1) := by decide +kernel
theorem dX7_book_376 : decode cX7_book 376 = .ok (.getfield 109, 3) := by decide +kernel
theorem dX7_book_379 : decode cX7_book 379 = .ok (.aload_n 0, 1) := by decide +kernel
theorem dX7_book_380 : decode cX7_book 380 = .ok (.getfield 147, 3) := by decide +kernel
theorem dX7_book_383 : decode cX7_book 383 = .ok (.iaload, 1) := by decide +kernel
theorem dX7_book_384 : decode cX7_book 384 = .ok (.i2l, 1) := by decide +kernel
theorem dX7_book_385 : decode cX7_book 385 = .ok (.ladd, 1) := by decide +kernel
theorem dX7_book_386 : decode cX7_book 386 = .ok (.putfield 190, 3) := by decide +kernel
theorem dX7_book_389 : decode cX7_book 389 = .ok (.aload_n 0, 1) := by decide +kernel
theorem dX7_book_390 : decode cX7_book 390 = .ok (.dup, 1) := by decide +kernel
theorem dX7_book_391 : decode cX7_book 391 = .ok (.getfield 193, 3) := by decide +kernel
theorem dX7_book_394 : decode cX7_book 394 = .ok (.aload_n 0, 1) := by decide +kernel
theorem dX7_book_395 : decode cX7_book 395 = .ok (.getfield 112, 3) := by decide +kernel
theorem dX7_book_398 : decode cX7_book 398 = .ok (.aload_n 0, 1) := by decide +kernel
theorem dX7_book_399 : decode cX7_book 399 = .ok (.getfield 147, 3) := by decide +kernel
theorem dX7_book_402 : decode cX7_book 402 = .ok (.iaload, 1) := by decide +kernel
theorem dX7_book_403 : decode cX7_book 403 = .ok (.i2l, 1) := by decide +kernel
theorem dX7_book_404 : decode cX7_book 404 = .ok (.ladd, 1) := by decide +kernel
theorem dX7_book_405 : decode cX7_book 405 = .ok (.putfield 193, 3) := by decide +kernel
theorem dX7_book_408 : decode cX7_book 408 = .ok (.aload_n 0, 1) := by decide +kernel
theorem dX7_book_409 : decode cX7_book 409 = .ok (.dup, 1) := by decide +kernel
theorem dX7_book_410 : decode cX7_book 410 = .ok (.getfield 147, 3) := by decide +kernel
theorem dX7_book_413 : decode cX7_book 413 = .ok (.iconst 1, 1) := by decide +kernel
theorem dX7_book_414 : decode cX7_book 414 = .ok (.iadd, 1) := by decide +kernel
theorem dX7_book_415 : decode cX7_book 415 = .ok (.putfield 147, 3) := by decide +kernel
theorem dX7_book_418 : decode cX7_book 418 = .ok (.aload_n 0, 1) := by decide +kernel
theorem dX7_book_419 : decode cX7_book 419 = .ok (.getfield 147, 3) := by decide +kernel
theorem dX7_book_422 : decode cX7_book 422 = .ok (.iconst 1, 1) := by decide +kernel
theorem dX7_book_423 : decode cX7_book 423 = .ok (.isub, 1) := by decide +kernel
theorem dX7_book_424 : decode cX7_book 424 = .ok (.ireturn, 1) := by decide +kernel
theorem dX7_sailingOf_0 : decode cX7_sailingOf 0 = .ok (.aload_n 0, 1) := by decide +kernel
theorem dX7_sailingOf_1 : decode cX7_sailingOf 1 = .ok (.iload_n 1, 1) := by decide +kernel
theorem dX7_sailingOf_2 : decode cX7_sailingOf 2 = .ok (.invokevirtual 252, 3) := by decide +kernel
theorem dX7_sailingOf_5 : decode cX7_sailingOf 5 = .ok (.ifCond .eq 14, 3) := by decide +kernel
theorem dX7_sailingOf_8 : decode cX7_sailingOf 8 = .ok (.aload_n 0, 1) := by decide +kernel
theorem dX7_sailingOf_9 : decode cX7_sailingOf 9 = .ok (.getfield 91, 3) := by decide +kernel
theorem dX7_sailingOf_12 : decode cX7_sailingOf 12 = .ok (.iload_n 1, 1) := by decide +kernel
theorem dX7_sailingOf_13 : decode cX7_sailingOf 13 = .ok (.iaload, 1) := by decide +kernel
theorem dX7_sailingOf_14 : decode cX7_sailingOf 14 = .ok (.iconst 1, 1) := by decide +kernel
theorem dX7_sailingOf_15 : decode cX7_sailingOf 15 = .ok (.isub, 1) := by decide +kernel
theorem dX7_sailingOf_16 : decode cX7_sailingOf 16 = .ok (.goto 4, 3) := by decide +kernel
theorem dX7_sailingOf_19 : decode cX7_sailingOf 19 = .ok (.iconst 0, 1) := by decide +kernel
theorem dX7_sailingOf_20 : decode cX7_sailingOf 20 = .ok (.ireturn, 1) := by decide +kernel
theorem dX7_lane_0 : decode cX7_lane 0 = .ok (.aload_n 0, 1) := by decide +kernel
theorem dX7_lane_1 : decode cX7_lane 1 = .ok (.iload_n 1, 1) := by decide +kernel
theorem dX7_lane_2 : decode cX7_lane 2 = .ok (.invokevirtual 252, 3) := by decide +kernel
theorem dX7_lane_5 : decode cX7_lane 5 = .ok (.ifCond .eq 14, 3) := by decide +kernel
theorem dX7_lane_8 : decode cX7_lane 8 = .ok (.aload_n 0, 1) := by decide +kernel
theorem dX7_lane_9 : decode cX7_lane 9 = .ok (.getfield 121, 3) := by decide +kernel
theorem dX7_lane_12 : decode cX7_lane 12 = .ok (.iload_n 1, 1) := by decide +kernel
theorem dX7_lane_13 : decode cX7_lane 13 = .ok (.iaload, 1) := by decide +kernel
theorem dX7_lane_14 : decode cX7_lane 14 = .ok (.iconst 1, 1) := by decide +kernel
theorem dX7_lane_15 : decode cX7_lane 15 = .ok (.isub, 1) := by decide +kernel
theorem dX7_lane_16 : decode cX7_lane 16 = .ok (.goto 4, 3) := by decide +kernel
theorem dX7_lane_19 : decode cX7_lane 19 = .ok (.iconst 0, 1) := by decide +kernel
theorem dX7_lane_20 : decode cX7_lane 20 = .ok (.ireturn, 1) := by decide +kernel
theorem dX7_paid_0 : decode cX7_paid 0 = .ok (.aload_n 0, 1) := by decide +kernel
theorem dX7_paid_1 : decode cX7_paid 1 = .ok (.iload_n 1, 1) := by decide +kernel
theorem dX7_paid_2 : decode cX7_paid 2 = .ok (.invokevirtual 252, 3) := by decide +kernel
theorem dX7_paid_5 : decode cX7_paid 5 = .ok (.ifCond .eq 12, 3) := by decide +kernel
theorem dX7_paid_8 : decode cX7_paid 8 = .ok (.aload_n 0, 1) := by decide +kernel
theorem dX7_paid_9 : decode cX7_paid 9 = .ok (.getfield 109, 3) := by decide +kernel
theorem dX7_paid_12 : decode cX7_paid 12 = .ok (.iload_n 1, 1) := by decide +kernel
theorem dX7_paid_13 : decode cX7_paid 13 = .ok (.iaload, 1) := by decide +kernel
theorem dX7_paid_14 : decode cX7_paid 14 = .ok (.goto 4, 3) := by decide +kernel
theorem dX7_paid_17 : decode cX7_paid 17 = .ok (.iconst 0, 1) := by decide +kernel
theorem dX7_paid_18 : decode cX7_paid 18 = .ok (.ireturn, 1) := by decide +kernel
theorem dX7_taken_0 : decode cX7_taken 0 = .ok (.iconst 0, 1) := by decide +kernel
theorem dX7_taken_1 : decode cX7_taken 1 = .ok (.istore_n 2, 1) := by decide +kernel
theorem dX7_taken_2 : decode cX7_taken 2 = .ok (.iconst 0, 1) := by decide +kernel
theorem dX7_taken_3 : decode cX7_taken 3 = .ok (.istore_n 3, 1) := by decide +kernel
theorem dX7_taken_4 : decode cX7_taken 4 = .ok (.aload_n 0, 1) := by decide +kernel
theorem dX7_taken_5 : decode cX7_taken 5 = .ok (.iload_n 1, 1) := by decide +kernel
theorem dX7_taken_6 : decode cX7_taken 6 = .ok (.invokevirtual 200, 3) := by decide +kernel
theorem dX7_taken_9 : decode cX7_taken 9 = .ok (.ifCond .eq 47, 3) := by decide +kernel
theorem dX7_taken_12 : decode cX7_taken 12 = .ok (.iload_n 3, 1) := by decide +kernel
theorem dX7_taken_13 : decode cX7_taken 13 = .ok (.aload_n 0, 1) := by decide +kernel
theorem dX7_taken_14 : decode cX7_taken 14 = .ok (.getfield 147, 3) := by decide +kernel
theorem dX7_taken_17 : decode cX7_taken 17 = .ok (.if_icmp .ge 39, 3) := by decide +kernel
theorem dX7_taken_20 : decode cX7_taken 20 = .ok (.iload_n 2, 1) := by decide +kernel
theorem dX7_taken_21 : decode cX7_taken 21 = .ok (.aload_n 0, 1) := by decide +kernel
theorem dX7_taken_22 : decode cX7_taken 22 = .ok (.getfield 91, 3) := by decide +kernel
theorem dX7_taken_25 : decode cX7_taken 25 = .ok (.iload_n 3, 1) := by decide +kernel
theorem dX7_taken_26 : decode cX7_taken 26 = .ok (.iaload, 1) := by decide +kernel
theorem dX7_taken_27 : decode cX7_taken 27 = .ok (.iload_n 1, 1) := by decide +kernel
theorem dX7_taken_28 : decode cX7_taken 28 = .ok (.iconst 1, 1) := by decide +kernel
theorem dX7_taken_29 : decode cX7_taken 29 = .ok (.iadd, 1) := by decide +kernel
theorem dX7_taken_30 : decode cX7_taken 30 = .ok (.if_icmp .ne 17, 3) := by decide +kernel
theorem dX7_taken_33 : decode cX7_taken 33 = .ok (.aload_n 0, 1) := by decide +kernel
theorem dX7_taken_34 : decode cX7_taken 34 = .ok (.getfield 118, 3) := by decide +kernel
theorem dX7_taken_37 : decode cX7_taken 37 = .ok (.iload_n 3, 1) := by decide +kernel
theorem dX7_taken_38 : decode cX7_taken 38 = .ok (.iaload, 1) := by decide +kernel
theorem dX7_taken_39 : decode cX7_taken 39 = .ok (.iconst 1, 1) := by decide +kernel
theorem dX7_taken_40 : decode cX7_taken 40 = .ok (.if_icmp .ne 7, 3) := by decide +kernel
theorem dX7_taken_43 : decode cX7_taken 43 = .ok (.iconst 1, 1) := by decide +kernel
theorem dX7_taken_44 : decode cX7_taken 44 = .ok (.goto 4, 3) := by decide +kernel
theorem dX7_taken_47 : decode cX7_taken 47 = .ok (.iconst 0, 1) := by decide +kernel
theorem dX7_taken_48 : decode cX7_taken 48 = .ok (.iadd, 1) := by decide +kernel
theorem dX7_taken_49 : decode cX7_taken 49 = .ok (.istore_n 2, 1) := by decide +kernel
theorem dX7_taken_50 : decode cX7_taken 50 = .ok (.iinc 3 1, 3) := by decide +kernel
theorem dX7_taken_53 : decode cX7_taken 53 = .ok (.goto (-49), 3) := by decide +kernel
theorem dX7_taken_56 : decode cX7_taken 56 = .ok (.iload_n 2, 1) := by decide +kernel
theorem dX7_taken_57 : decode cX7_taken 57 = .ok (.ireturn, 1) := by decide +kernel
theorem dX7_list_0 : decode cX7_list 0 = .ok (.aload_n 0, 1) := by decide +kernel
theorem dX7_list_1 : decode cX7_list 1 = .ok (.iload_n 1, 1) := by decide +kernel
theorem dX7_list_2 : decode cX7_list 2 = .ok (.invokevirtual 200, 3) := by decide +kernel
theorem dX7_list_5 : decode cX7_list 5 = .ok (.ifCond .ne 5, 3) := by decide +kernel
theorem dX7_list_8 : decode cX7_list 8 = .ok (.iconst 0, 1) := by decide +kernel
theorem dX7_list_9 : decode cX7_list 9 = .ok (.ireturn, 1) := by decide +kernel
theorem dX7_list_10 : decode cX7_list 10 = .ok (.aload_n 0, 1) := by decide +kernel
theorem dX7_list_11 : decode cX7_list 11 = .ok (.aload_n 0, 1) := by decide +kernel
theorem dX7_list_12 : decode cX7_list 12 = .ok (.getfield 73, 3) := by decide +kernel
theorem dX7_list_15 : decode cX7_list 15 = .ok (.iload_n 1, 1) := by decide +kernel
theorem dX7_list_16 : decode cX7_list 16 = .ok (.iaload, 1) := by decide +kernel
theorem dX7_list_17 : decode cX7_list 17 = .ok (.iconst 2, 1) := by decide +kernel
theorem dX7_list_18 : decode cX7_list 18 = .ok (.if_icmp .ne 7, 3) := by decide +kernel
theorem dX7_list_21 : decode cX7_list 21 = .ok (.iconst 0, 1) := by decide +kernel
theorem dX7_list_22 : decode cX7_list 22 = .ok (.goto 4, 3) := by decide +kernel
theorem dX7_list_25 : decode cX7_list 25 = .ok (.iconst 2, 1) := by decide +kernel
theorem dX7_list_26 : decode cX7_list 26 = .ok (.putfield 133, 3) := by decide +kernel
theorem dX7_list_29 : decode cX7_list 29 = .ok (.aload_n 0, 1) := by decide +kernel
theorem dX7_list_30 : decode cX7_list 30 = .ok (.getfield 133, 3) := by decide +kernel
theorem dX7_list_33 : decode cX7_list 33 = .ok (.ifCond .ne 19, 3) := by decide +kernel
theorem dX7_list_36 : decode cX7_list 36 = .ok (.aload_n 0, 1) := by decide +kernel
theorem dX7_list_37 : decode cX7_list 37 = .ok (.getfield 82, 3) := by decide +kernel
theorem dX7_list_40 : decode cX7_list 40 = .ok (.iload_n 1, 1) := by decide +kernel
theorem dX7_list_41 : decode cX7_list 41 = .ok (.iaload, 1) := by decide +kernel
theorem dX7_list_42 : decode cX7_list 42 = .ok (.aload_n 0, 1) := by decide +kernel
theorem dX7_list_43 : decode cX7_list 43 = .ok (.getfield 85, 3) := by decide +kernel
theorem dX7_list_46 : decode cX7_list 46 = .ok (.iload_n 1, 1) := by decide +kernel
theorem dX7_list_47 : decode cX7_list 47 = .ok (.iaload, 1) := by decide +kernel
theorem dX7_list_48 : decode cX7_list 48 = .ok (.isub, 1) := by decide +kernel
theorem dX7_list_49 : decode cX7_list 49 = .ok (.goto 4, 3) := by decide +kernel
theorem dX7_list_52 : decode cX7_list 52 = .ok (.iconst 0, 1) := by decide +kernel
theorem dX7_list_53 : decode cX7_list 53 = .ok (.ireturn, 1) := by decide +kernel
theorem dX7_account_0 : decode cX7_account 0 = .ok (.aload_n 0, 1) := by decide +kernel
theorem dX7_account_1 : decode cX7_account 1 = .ok (.iload_n 1, 1) := by decide +kernel
theorem dX7_account_2 : decode cX7_account 2 = .ok (.iconst 0, 1) := by decide +kernel
theorem dX7_account_3 : decode cX7_account 3 = .ok (.iconst 2, 1) := by decide +kernel
theorem dX7_account_4 : decode cX7_account 4 = .ok (.invokestatic 137, 3) := by decide +kernel
theorem dX7_account_7 : decode cX7_account 7 = .ok (.ifCond .eq 7, 3) := by decide +kernel
theorem dX7_account_10 : decode cX7_account 10 = .ok (.iconst 0, 1) := by decide +kernel
theorem dX7_account_11 : decode cX7_account 11 = .ok (.goto 4, 3) := by decide +kernel
theorem dX7_account_14 : decode cX7_account 14 = .ok (.iconst 1, 1) := by decide +kernel
theorem dX7_account_15 : decode cX7_account 15 = .ok (.putfield 133, 3) := by decide +kernel
theorem dX7_account_18 : decode cX7_account 18 = .ok (.aload_n 0, 1) := by decide +kernel
theorem dX7_account_19 : decode cX7_account 19 = .ok (.getfield 133, 3) := by decide +kernel
theorem dX7_account_22 : decode cX7_account 22 = .ok (.ifCond .le 7, 3) := by decide +kernel
theorem dX7_account_25 : decode cX7_account 25 = .ok (.lconst 0, 1) := by decide +kernel
theorem dX7_account_26 : decode cX7_account 26 = .ok (.goto 30, 3) := by decide +kernel
theorem dX7_account_29 : decode cX7_account 29 = .ok (.iload_n 1, 1) := by decide +kernel
theorem dX7_account_30 : decode cX7_account 30 = .ok (.ifCond .ne 10, 3) := by decide +kernel
theorem dX7_account_33 : decode cX7_account 33 = .ok (.aload_n 0, 1) := by decide +kernel
theorem dX7_account_34 : decode cX7_account 34 = .ok (.getfield 190, 3) := by decide +kernel
theorem dX7_account_37 : decode cX7_account 37 = .ok (.goto 19, 3) := by decide +kernel
theorem dX7_account_40 : decode cX7_account 40 = .ok (.iload_n 1, 1) := by decide +kernel
theorem dX7_account_41 : decode cX7_account 41 = .ok (.iconst 1, 1) := by decide +kernel
theorem dX7_account_42 : decode cX7_account 42 = .ok (.if_icmp .ne 10, 3) := by decide +kernel
theorem dX7_account_45 : decode cX7_account 45 = .ok (.aload_n 0, 1) := by decide +kernel
theorem dX7_account_46 : decode cX7_account 46 = .ok (.getfield 193, 3) := by decide +kernel
theorem dX7_account_49 : decode cX7_account 49 = .ok (.goto 7, 3) := by decide +kernel
theorem dX7_account_52 : decode cX7_account 52 = .ok (.aload_n 0, 1) := by decide +kernel
theorem dX7_account_53 : decode cX7_account 53 = .ok (.getfield 157, 3) := by decide +kernel
theorem dX7_account_56 : decode cX7_account 56 = .ok (.lreturn, 1) := by decide +kernel
theorem dX7_accountAnew_0 : decode cX7_accountAnew 0 = .ok (.aload_n 0, 1) := by decide +kernel
theorem dX7_accountAnew_1 : decode cX7_accountAnew 1 = .ok (.iload_n 1, 1) := by decide +kernel
theorem dX7_accountAnew_2 : decode cX7_accountAnew 2 = .ok (.iconst 0, 1) := by decide +kernel
theorem dX7_accountAnew_3 : decode cX7_accountAnew 3 = .ok (.iconst 1, 1) := by decide +kernel
theorem dX7_accountAnew_4 : decode cX7_accountAnew 4 = .ok (.invokestatic 137, 3) := by decide +kernel
theorem dX7_accountAnew_7 : decode cX7_accountAnew 7 = .ok (.ifCond .eq 7, 3) := by decide +kernel
theorem dX7_accountAnew_10 : decode cX7_accountAnew 10 = .ok (.iconst 0, 1) := by decide +kernel
theorem dX7_accountAnew_11 : decode cX7_accountAnew 11 = .ok (.goto 4, 3) := by decide +kernel
theorem dX7_accountAnew_14 : decode cX7_accountAnew 14 = .ok (.iconst 1, 1) := by decide +kernel
theorem dX7_accountAnew_15 : decode cX7_accountAnew 15 = .ok (.putfield 133, 3) := by decide +kernel
theorem dX7_accountAnew_18 : decode cX7_accountAnew 18 = .ok (.lconst 0, 1) := by decide +kernel
theorem dX7_accountAnew_19 : decode cX7_accountAnew 19 = .ok (.lstore_n 2, 1) := by decide +kernel
theorem dX7_accountAnew_20 : decode cX7_accountAnew 20 = .ok (.iconst 0, 1) := by decide +kernel
theorem dX7_accountAnew_21 : decode cX7_accountAnew 21 = .ok (.istore 4, 2) := by decide +kernel
theorem dX7_accountAnew_23 : decode cX7_accountAnew 23 = .ok (.aload_n 0, 1) := by decide +kernel
theorem dX7_accountAnew_24 : decode cX7_accountAnew 24 = .ok (.getfield 133, 3) := by decide +kernel
theorem dX7_accountAnew_27 : decode cX7_accountAnew 27 = .ok (.ifCond .ne 44, 3) := by decide +kernel
theorem dX7_accountAnew_30 : decode cX7_accountAnew 30 = .ok (.iload 4, 2) := by decide +kernel
theorem dX7_accountAnew_32 : decode cX7_accountAnew 32 = .ok (.aload_n 0, 1) := by decide +kernel
theorem dX7_accountAnew_33 : decode cX7_accountAnew 33 = .ok (.getfield 147, 3) := by decide +kernel
theorem dX7_accountAnew_36 : decode cX7_accountAnew 36 = .ok (.if_icmp .ge 35, 3) := by decide +kernel
theorem dX7_accountAnew_39 : decode cX7_accountAnew 39 = .ok (.lload_n 2, 1) := by decide +kernel
theorem dX7_accountAnew_40 : decode cX7_accountAnew 40 = .ok (.iload_n 1, 1) := by decide +kernel
theorem dX7_accountAnew_41 : decode cX7_accountAnew 41 = .ok (.ifCond .ne 14, 3) := by decide +kernel
theorem dX7_accountAnew_44 : decode cX7_accountAnew 44 = .ok (.aload_n 0, 1) := by decide +kernel
theorem dX7_accountAnew_45 : decode cX7_accountAnew 45 = .ok (.getfield 109, 3) := by decide +kernel
theorem dX7_accountAnew_48 : decode cX7_accountAnew 48 = .ok (.iload 4, 2) := by decide +kernel
theorem dX7_accountAnew_50 : decode cX7_accountAnew 50 = .ok (.iaload, 1) := by decide +kernel
theorem dX7_accountAnew_51 : decode cX7_accountAnew 51 = .ok (.i2l, 1) := by decide +kernel
theorem dX7_accountAnew_52 : decode cX7_accountAnew 52 = .ok (.goto 11, 3) := by decide +kernel
theorem dX7_accountAnew_55 : decode cX7_accountAnew 55 = .ok (.aload_n 0, 1) := by decide +kernel
theorem dX7_accountAnew_56 : decode cX7_accountAnew 56 = .ok (.getfield 112, 3) := by decide +kernel
theorem dX7_accountAnew_59 : decode cX7_accountAnew 59 = .ok (.iload 4, 2) := by decide +kernel
theorem dX7_accountAnew_61 : decode cX7_accountAnew 61 = .ok (.iaload, 1) := by decide +kernel
theorem dX7_accountAnew_62 : decode cX7_accountAnew 62 = .ok (.i2l, 1) := by decide +kernel
theorem dX7_accountAnew_63 : decode cX7_accountAnew 63 = .ok (.ladd, 1) := by decide +kernel
theorem dX7_accountAnew_64 : decode cX7_accountAnew 64 = .ok (.lstore_n 2, 1) := by decide +kernel
theorem dX7_accountAnew_65 : decode cX7_accountAnew 65 = .ok (.iinc 4 1, 3) := by decide +kernel
theorem dX7_accountAnew_68 : decode cX7_accountAnew 68 = .ok (.goto (-45), 3) := by decide +kernel
theorem dX7_accountAnew_71 : decode cX7_accountAnew 71 = .ok (.lload_n 2, 1) := by decide +kernel
theorem dX7_accountAnew_72 : decode cX7_accountAnew 72 = .ok (.lreturn, 1) := by decide +kernel
end
section
theorem dJ9_floorMod_7cf53_0 : decode cJ9_floorMod_7cf53 0 = .ok (.iload_n 0, 1) := by decide +kernel
theorem dJ9_floorMod_7cf53_1 : decode cJ9_floorMod_7cf53 1 = .ok (.iload_n 1, 1) := by decide +kernel
theorem dJ9_floorMod_7cf53_2 : decode cJ9_floorMod_7cf53 2 = .ok (.irem, 1) := by decide +kernel
theorem dJ9_floorMod_7cf53_3 : decode cJ9_floorMod_7cf53 3 = .ok (.istore_n 2, 1) := by decide +kernel
theorem dJ9_floorMod_7cf53_4 : decode cJ9_floorMod_7cf53 4 = .ok (.iload_n 0, 1) := by decide +kernel
theorem dJ9_floorMod_7cf53_5 : decode cJ9_floorMod_7cf53 5 = .ok (.iload_n 1, 1) := by decide +kernel
theorem dJ9_floorMod_7cf53_6 : decode cJ9_floorMod_7cf53 6 = .ok (.ixor, 1) := by decide +kernel
theorem dJ9_floorMod_7cf53_7 : decode cJ9_floorMod_7cf53 7 = .ok (.ifCond .ge 11, 3) := by decide +kernel
theorem dJ9_floorMod_7cf53_10 : decode cJ9_floorMod_7cf53 10 = .ok (.iload_n 2, 1) := by decide +kernel
theorem dJ9_floorMod_7cf53_11 : decode cJ9_floorMod_7cf53 11 = .ok (.ifCond .eq 7, 3) := by decide +kernel
theorem dJ9_floorMod_7cf53_14 : decode cJ9_floorMod_7cf53 14 = .ok (.iload_n 2, 1) := by decide +kernel
theorem dJ9_floorMod_7cf53_15 : decode cJ9_floorMod_7cf53 15 = .ok (.iload_n 1, 1) := by decide +kernel
theorem dJ9_floorMod_7cf53_16 : decode cJ9_floorMod_7cf53 16 = .ok (.iadd, 1) := by decide +kernel
theorem dJ9_floorMod_7cf53_17 : decode cJ9_floorMod_7cf53 17 = .ok (.ireturn, 1) := by decide +kernel
theorem dJ9_floorMod_7cf53_18 : decode cJ9_floorMod_7cf53 18 = .ok (.iload_n 2, 1) := by decide +kernel
theorem dJ9_floorMod_7cf53_19 : decode cJ9_floorMod_7cf53 19 = .ok (.ireturn, 1) := by decide +kernel
theorem dJ9_abs_0f7a4_0 : decode cJ9_abs_0f7a4 0 = .ok (.iload_n 0, 1) := by decide +kernel
theorem dJ9_abs_0f7a4_1 : decode cJ9_abs_0f7a4 1 = .ok (.ifCond .ge 8, 3) := by decide +kernel
theorem dJ9_abs_0f7a4_4 : decode cJ9_abs_0f7a4 4 = .ok (.iload_n 0, 1) := by decide +kernel
theorem dJ9_abs_0f7a4_5 : decode cJ9_abs_0f7a4 5 = .ok (.ineg, 1) := by decide +kernel
theorem dJ9_abs_0f7a4_6 : decode cJ9_abs_0f7a4 6 = .ok (.goto 4, 3) := by decide +kernel
theorem dJ9_abs_0f7a4_9 : decode cJ9_abs_0f7a4 9 = .ok (.iload_n 0, 1) := by decide +kernel
theorem dJ9_abs_0f7a4_10 : decode cJ9_abs_0f7a4 10 = .ok (.ireturn, 1) := by decide +kernel
theorem dJ9_max_7cf53_0 : decode cJ9_max_7cf53 0 = .ok (.iload_n 0, 1) := by decide +kernel
theorem dJ9_max_7cf53_1 : decode cJ9_max_7cf53 1 = .ok (.iload_n 1, 1) := by decide +kernel
theorem dJ9_max_7cf53_2 : decode cJ9_max_7cf53 2 = .ok (.if_icmp .lt 7, 3) := by decide +kernel
theorem dJ9_max_7cf53_5 : decode cJ9_max_7cf53 5 = .ok (.iload_n 0, 1) := by decide +kernel
theorem dJ9_max_7cf53_6 : decode cJ9_max_7cf53 6 = .ok (.goto 4, 3) := by decide +kernel
theorem dJ9_max_7cf53_9 : decode cJ9_max_7cf53 9 = .ok (.iload_n 1, 1) := by decide +kernel
theorem dJ9_max_7cf53_10 : decode cJ9_max_7cf53 10 = .ok (.ireturn, 1) := by decide +kernel
theorem dL_ship_0 : decode cL_ship 0 = .ok (.aload 7, 2) := by decide +kernel
theorem dL_ship_2 : decode cL_ship 2 = .ok (.iconst 0, 1) := by decide +kernel
theorem dL_ship_3 : decode cL_ship 3 = .ok (.aload_n 0, 1) := by decide +kernel
theorem dL_ship_4 : decode cL_ship 4 = .ok (.iload_n 1, 1) := by decide +kernel
theorem dL_ship_5 : decode cL_ship 5 = .ok (.iload_n 2, 1) := by decide +kernel
theorem dL_ship_6 : decode cL_ship 6 = .ok (.iload_n 3, 1) := by decide +kernel
theorem dL_ship_7 : decode cL_ship 7 = .ok (.iload 4, 2) := by decide +kernel
theorem dL_ship_9 : decode cL_ship 9 = .ok (.iload 5, 2) := by decide +kernel
theorem dL_ship_11 : decode cL_ship 11 = .ok (.iload 6, 2) := by decide +kernel
theorem dL_ship_13 : decode cL_ship 13 = .ok (.invokevirtual 7, 3) := by decide +kernel
theorem dL_ship_16 : decode cL_ship 16 = .ok (.i2l, 1) := by decide +kernel
theorem dL_ship_17 : decode cL_ship 17 = .ok (.lastore, 1) := by decide +kernel
theorem dL_ship_18 : decode cL_ship 18 = .ok (.goto 15, 3) := by decide +kernel
theorem dL_ship_21 : decode cL_ship 21 = .ok (.astore 8, 2) := by decide +kernel
theorem dL_ship_23 : decode cL_ship 23 = .ok (.iconst 1, 1) := by decide +kernel
theorem dL_ship_24 : decode cL_ship 24 = .ok (.ireturn, 1) := by decide +kernel
theorem dL_ship_25 : decode cL_ship 25 = .ok (.astore 8, 2) := by decide +kernel
theorem dL_ship_27 : decode cL_ship 27 = .ok (.iconst 2, 1) := by decide +kernel
theorem dL_ship_28 : decode cL_ship 28 = .ok (.ireturn, 1) := by decide +kernel
theorem dL_ship_29 : decode cL_ship 29 = .ok (.astore 8, 2) := by decide +kernel
theorem dL_ship_31 : decode cL_ship 31 = .ok (.iconst 3, 1) := by decide +kernel
theorem dL_ship_32 : decode cL_ship 32 = .ok (.ireturn, 1) := by decide +kernel
theorem dL_ship_33 : decode cL_ship 33 = .ok (.iconst 0, 1) := by decide +kernel
theorem dL_ship_34 : decode cL_ship 34 = .ok (.ireturn, 1) := by decide +kernel
theorem dL_fill_0 : decode cL_fill 0 = .ok (.aload_n 3, 1) := by decide +kernel
theorem dL_fill_1 : decode cL_fill 1 = .ok (.iconst 0, 1) := by decide +kernel
theorem dL_fill_2 : decode cL_fill 2 = .ok (.aload_n 0, 1) := by decide +kernel
theorem dL_fill_3 : decode cL_fill 3 = .ok (.iload_n 1, 1) := by decide +kernel
theorem dL_fill_4 : decode cL_fill 4 = .ok (.iload_n 2, 1) := by decide +kernel
theorem dL_fill_5 : decode cL_fill 5 = .ok (.invokevirtual 19, 3) := by decide +kernel
theorem dL_fill_8 : decode cL_fill 8 = .ok (.i2l, 1) := by decide +kernel
theorem dL_fill_9 : decode cL_fill 9 = .ok (.lastore, 1) := by decide +kernel
theorem dL_fill_10 : decode cL_fill 10 = .ok (.goto 15, 3) := by decide +kernel
theorem dL_fill_13 : decode cL_fill 13 = .ok (.astore 4, 2) := by decide +kernel
theorem dL_fill_15 : decode cL_fill 15 = .ok (.iconst 1, 1) := by decide +kernel
theorem dL_fill_16 : decode cL_fill 16 = .ok (.ireturn, 1) := by decide +kernel
theorem dL_fill_17 : decode cL_fill 17 = .ok (.astore 4, 2) := by decide +kernel
theorem dL_fill_19 : decode cL_fill 19 = .ok (.iconst 2, 1) := by decide +kernel
theorem dL_fill_20 : decode cL_fill 20 = .ok (.ireturn, 1) := by decide +kernel
theorem dL_fill_21 : decode cL_fill 21 = .ok (.astore 4, 2) := by decide +kernel
theorem dL_fill_23 : decode cL_fill 23 = .ok (.iconst 3, 1) := by decide +kernel
theorem dL_fill_24 : decode cL_fill 24 = .ok (.ireturn, 1) := by decide +kernel
theorem dL_fill_25 : decode cL_fill 25 = .ok (.iconst 0, 1) := by decide +kernel
theorem dL_fill_26 : decode cL_fill 26 = .ok (.ireturn, 1) := by decide +kernel
theorem dL_crew_0 : decode cL_crew 0 = .ok (.aload 4, 2) := by decide +kernel
theorem dL_crew_2 : decode cL_crew 2 = .ok (.iconst 0, 1) := by decide +kernel
theorem dL_crew_3 : decode cL_crew 3 = .ok (.aload_n 0, 1) := by decide +kernel
theorem dL_crew_4 : decode cL_crew 4 = .ok (.iload_n 1, 1) := by decide +kernel
theorem dL_crew_5 : decode cL_crew 5 = .ok (.iload_n 2, 1) := by decide +kernel
theorem dL_crew_6 : decode cL_crew 6 = .ok (.iload_n 3, 1) := by decide +kernel
theorem dL_crew_7 : decode cL_crew 7 = .ok (.invokevirtual 23, 3) := by decide +kernel
theorem dL_crew_10 : decode cL_crew 10 = .ok (.i2l, 1) := by decide +kernel
theorem dL_crew_11 : decode cL_crew 11 = .ok (.lastore, 1) := by decide +kernel
theorem dL_crew_12 : decode cL_crew 12 = .ok (.goto 15, 3) := by decide +kernel
theorem dL_crew_15 : decode cL_crew 15 = .ok (.astore 5, 2) := by decide +kernel
theorem dL_crew_17 : decode cL_crew 17 = .ok (.iconst 1, 1) := by decide +kernel
theorem dL_crew_18 : decode cL_crew 18 = .ok (.ireturn, 1) := by decide +kernel
theorem dL_crew_19 : decode cL_crew 19 = .ok (.astore 5, 2) := by decide +kernel
theorem dL_crew_21 : decode cL_crew 21 = .ok (.iconst 2, 1) := by decide +kernel
theorem dL_crew_22 : decode cL_crew 22 = .ok (.ireturn, 1) := by decide +kernel
theorem dL_crew_23 : decode cL_crew 23 = .ok (.astore 5, 2) := by decide +kernel
theorem dL_crew_25 : decode cL_crew 25 = .ok (.iconst 3, 1) := by decide +kernel
theorem dL_crew_26 : decode cL_crew 26 = .ok (.ireturn, 1) := by decide +kernel
theorem dL_crew_27 : decode cL_crew 27 = .ok (.iconst 0, 1) := by decide +kernel
theorem dL_crew_28 : decode cL_crew 28 = .ok (.ireturn, 1) := by decide +kernel
theorem dL_hours_0 : decode cL_hours 0 = .ok (.aload_n 3, 1) := by decide +kernel
theorem dL_hours_1 : decode cL_hours 1 = .ok (.iconst 0, 1) := by decide +kernel
theorem dL_hours_2 : decode cL_hours 2 = .ok (.aload_n 0, 1) := by decide +kernel
theorem dL_hours_3 : decode cL_hours 3 = .ok (.iload_n 1, 1) := by decide +kernel
theorem dL_hours_4 : decode cL_hours 4 = .ok (.iload_n 2, 1) := by decide +kernel
theorem dL_hours_5 : decode cL_hours 5 = .ok (.invokevirtual 27, 3) := by decide +kernel
theorem dL_hours_8 : decode cL_hours 8 = .ok (.i2l, 1) := by decide +kernel
theorem dL_hours_9 : decode cL_hours 9 = .ok (.lastore, 1) := by decide +kernel
theorem dL_hours_10 : decode cL_hours 10 = .ok (.goto 11, 3) := by decide +kernel
theorem dL_hours_13 : decode cL_hours 13 = .ok (.astore 4, 2) := by decide +kernel
theorem dL_hours_15 : decode cL_hours 15 = .ok (.iconst 1, 1) := by decide +kernel
theorem dL_hours_16 : decode cL_hours 16 = .ok (.ireturn, 1) := by decide +kernel
theorem dL_hours_17 : decode cL_hours 17 = .ok (.astore 4, 2) := by decide +kernel
theorem dL_hours_19 : decode cL_hours 19 = .ok (.iconst 2, 1) := by decide +kernel
theorem dL_hours_20 : decode cL_hours 20 = .ok (.ireturn, 1) := by decide +kernel
theorem dL_hours_21 : decode cL_hours 21 = .ok (.iconst 0, 1) := by decide +kernel
theorem dL_hours_22 : decode cL_hours 22 = .ok (.ireturn, 1) := by decide +kernel
theorem dL_depth_0 : decode cL_depth 0 = .ok (.aload_n 3, 1) := by decide +kernel
theorem dL_depth_1 : decode cL_depth 1 = .ok (.iconst 0, 1) := by decide +kernel
theorem dL_depth_2 : decode cL_depth 2 = .ok (.aload_n 0, 1) := by decide +kernel
theorem dL_depth_3 : decode cL_depth 3 = .ok (.iload_n 1, 1) := by decide +kernel
theorem dL_depth_4 : decode cL_depth 4 = .ok (.iload_n 2, 1) := by decide +kernel
theorem dL_depth_5 : decode cL_depth 5 = .ok (.invokevirtual 30, 3) := by decide +kernel
theorem dL_depth_8 : decode cL_depth 8 = .ok (.i2l, 1) := by decide +kernel
theorem dL_depth_9 : decode cL_depth 9 = .ok (.lastore, 1) := by decide +kernel
theorem dL_depth_10 : decode cL_depth 10 = .ok (.goto 11, 3) := by decide +kernel
theorem dL_depth_13 : decode cL_depth 13 = .ok (.astore 4, 2) := by decide +kernel
theorem dL_depth_15 : decode cL_depth 15 = .ok (.iconst 1, 1) := by decide +kernel
theorem dL_depth_16 : decode cL_depth 16 = .ok (.ireturn, 1) := by decide +kernel
theorem dL_depth_17 : decode cL_depth 17 = .ok (.astore 4, 2) := by decide +kernel
theorem dL_depth_19 : decode cL_depth 19 = .ok (.iconst 2, 1) := by decide +kernel
theorem dL_depth_20 : decode cL_depth 20 = .ok (.ireturn, 1) := by decide +kernel
theorem dL_depth_21 : decode cL_depth 21 = .ok (.iconst 0, 1) := by decide +kernel
theorem dL_depth_22 : decode cL_depth 22 = .ok (.ireturn, 1) := by decide +kernel
theorem dL_hinder_0 : decode cL_hinder 0 = .ok (.aload_n 0, 1) := by decide +kernel
theorem dL_hinder_1 : decode cL_hinder 1 = .ok (.iload_n 1, 1) := by decide +kernel
theorem dL_hinder_2 : decode cL_hinder 2 = .ok (.iload_n 2, 1) := by decide +kernel
theorem dL_hinder_3 : decode cL_hinder 3 = .ok (.iload_n 3, 1) := by decide +kernel
theorem dL_hinder_4 : decode cL_hinder 4 = .ok (.iload 4, 2) := by decide +kernel
theorem dL_hinder_6 : decode cL_hinder 6 = .ok (.invokevirtual 33, 3) := by decide +kernel
theorem dL_hinder_9 : decode cL_hinder 9 = .ok (.goto 11, 3) := by decide +kernel
theorem dL_hinder_12 : decode cL_hinder 12 = .ok (.astore 5, 2) := by decide +kernel
theorem dL_hinder_14 : decode cL_hinder 14 = .ok (.iconst 1, 1) := by decide +kernel
theorem dL_hinder_15 : decode cL_hinder 15 = .ok (.ireturn, 1) := by decide +kernel
theorem dL_hinder_16 : decode cL_hinder 16 = .ok (.astore 5, 2) := by decide +kernel
theorem dL_hinder_18 : decode cL_hinder 18 = .ok (.iconst 2, 1) := by decide +kernel
theorem dL_hinder_19 : decode cL_hinder 19 = .ok (.ireturn, 1) := by decide +kernel
theorem dL_hinder_20 : decode cL_hinder 20 = .ok (.iconst 0, 1) := by decide +kernel
theorem dL_hinder_21 : decode cL_hinder 21 = .ok (.ireturn, 1) := by decide +kernel
theorem dL_bus_0 : decode cL_bus 0 = .ok (.aload_n 0, 1) := by decide +kernel
theorem dL_bus_1 : decode cL_bus 1 = .ok (.iload_n 1, 1) := by decide +kernel
theorem dL_bus_2 : decode cL_bus 2 = .ok (.iload_n 2, 1) := by decide +kernel
theorem dL_bus_3 : decode cL_bus 3 = .ok (.iload_n 3, 1) := by decide +kernel
theorem dL_bus_4 : decode cL_bus 4 = .ok (.invokevirtual 37, 3) := by decide +kernel
theorem dL_bus_7 : decode cL_bus 7 = .ok (.goto 11, 3) := by decide +kernel
theorem dL_bus_10 : decode cL_bus 10 = .ok (.astore 4, 2) := by decide +kernel
theorem dL_bus_12 : decode cL_bus 12 = .ok (.iconst 1, 1) := by decide +kernel
theorem dL_bus_13 : decode cL_bus 13 = .ok (.ireturn, 1) := by decide +kernel
theorem dL_bus_14 : decode cL_bus 14 = .ok (.astore 4, 2) := by decide +kernel
theorem dL_bus_16 : decode cL_bus 16 = .ok (.iconst 2, 1) := by decide +kernel
theorem dL_bus_17 : decode cL_bus 17 = .ok (.ireturn, 1) := by decide +kernel
theorem dL_bus_18 : decode cL_bus 18 = .ok (.iconst 0, 1) := by decide +kernel
theorem dL_bus_19 : decode cL_bus 19 = .ok (.ireturn, 1) := by decide +kernel
theorem dL_reside_0 : decode cL_reside 0 = .ok (.aload_n 3, 1) := by decide +kernel
theorem dL_reside_1 : decode cL_reside 1 = .ok (.iconst 0, 1) := by decide +kernel
theorem dL_reside_2 : decode cL_reside 2 = .ok (.aload_n 0, 1) := by decide +kernel
theorem dL_reside_3 : decode cL_reside 3 = .ok (.iload_n 1, 1) := by decide +kernel
theorem dL_reside_4 : decode cL_reside 4 = .ok (.iload_n 2, 1) := by decide +kernel
theorem dL_reside_5 : decode cL_reside 5 = .ok (.invokevirtual 41, 3) := by decide +kernel
theorem dL_reside_8 : decode cL_reside 8 = .ok (.i2l, 1) := by decide +kernel
theorem dL_reside_9 : decode cL_reside 9 = .ok (.lastore, 1) := by decide +kernel
theorem dL_reside_10 : decode cL_reside 10 = .ok (.goto 7, 3) := by decide +kernel
theorem dL_reside_13 : decode cL_reside 13 = .ok (.astore 4, 2) := by decide +kernel
theorem dL_reside_15 : decode cL_reside 15 = .ok (.iconst 1, 1) := by decide +kernel
theorem dL_reside_16 : decode cL_reside 16 = .ok (.ireturn, 1) := by decide +kernel
theorem dL_reside_17 : decode cL_reside 17 = .ok (.iconst 0, 1) := by decide +kernel
theorem dL_reside_18 : decode cL_reside 18 = .ok (.ireturn, 1) := by decide +kernel
theorem dL_plan_0 : decode cL_plan 0 = .ok (.aload 5, 2) := by decide +kernel
theorem dL_plan_2 : decode cL_plan 2 = .ok (.iconst 0, 1) := by decide +kernel
theorem dL_plan_3 : decode cL_plan 3 = .ok (.aload_n 0, 1) := by decide +kernel
theorem dL_plan_4 : decode cL_plan 4 = .ok (.iload_n 1, 1) := by decide +kernel
theorem dL_plan_5 : decode cL_plan 5 = .ok (.iload_n 2, 1) := by decide +kernel
theorem dL_plan_6 : decode cL_plan 6 = .ok (.iload_n 3, 1) := by decide +kernel
theorem dL_plan_7 : decode cL_plan 7 = .ok (.iload 4, 2) := by decide +kernel
theorem dL_plan_9 : decode cL_plan 9 = .ok (.invokevirtual 44, 3) := by decide +kernel
theorem dL_plan_12 : decode cL_plan 12 = .ok (.i2l, 1) := by decide +kernel
theorem dL_plan_13 : decode cL_plan 13 = .ok (.lastore, 1) := by decide +kernel
theorem dL_plan_14 : decode cL_plan 14 = .ok (.goto 15, 3) := by decide +kernel
theorem dL_plan_17 : decode cL_plan 17 = .ok (.astore 6, 2) := by decide +kernel
theorem dL_plan_19 : decode cL_plan 19 = .ok (.iconst 1, 1) := by decide +kernel
theorem dL_plan_20 : decode cL_plan 20 = .ok (.ireturn, 1) := by decide +kernel
theorem dL_plan_21 : decode cL_plan 21 = .ok (.astore 6, 2) := by decide +kernel
theorem dL_plan_23 : decode cL_plan 23 = .ok (.iconst 2, 1) := by decide +kernel
theorem dL_plan_24 : decode cL_plan 24 = .ok (.ireturn, 1) := by decide +kernel
theorem dL_plan_25 : decode cL_plan 25 = .ok (.astore 6, 2) := by decide +kernel
theorem dL_plan_27 : decode cL_plan 27 = .ok (.iconst 3, 1) := by decide +kernel
theorem dL_plan_28 : decode cL_plan 28 = .ok (.ireturn, 1) := by decide +kernel
theorem dL_plan_29 : decode cL_plan 29 = .ok (.iconst 0, 1) := by decide +kernel
theorem dL_plan_30 : decode cL_plan 30 = .ok (.ireturn, 1) := by decide +kernel
theorem dL_cancel_0 : decode cL_cancel 0 = .ok (.aload_n 2, 1) := by decide +kernel
theorem dL_cancel_1 : decode cL_cancel 1 = .ok (.iconst 0, 1) := by decide +kernel
theorem dL_cancel_2 : decode cL_cancel 2 = .ok (.aload_n 0, 1) := by decide +kernel
theorem dL_cancel_3 : decode cL_cancel 3 = .ok (.iload_n 1, 1) := by decide +kernel
theorem dL_cancel_4 : decode cL_cancel 4 = .ok (.invokevirtual 48, 3) := by decide +kernel
theorem dL_cancel_7 : decode cL_cancel 7 = .ok (.i2l, 1) := by decide +kernel
theorem dL_cancel_8 : decode cL_cancel 8 = .ok (.lastore, 1) := by decide +kernel
theorem dL_cancel_9 : decode cL_cancel 9 = .ok (.goto 9, 3) := by decide +kernel
theorem dL_cancel_12 : decode cL_cancel 12 = .ok (.astore_n 3, 1) := by decide +kernel
theorem dL_cancel_13 : decode cL_cancel 13 = .ok (.iconst 1, 1) := by decide +kernel
theorem dL_cancel_14 : decode cL_cancel 14 = .ok (.ireturn, 1) := by decide +kernel
theorem dL_cancel_15 : decode cL_cancel 15 = .ok (.astore_n 3, 1) := by decide +kernel
theorem dL_cancel_16 : decode cL_cancel 16 = .ok (.iconst 2, 1) := by decide +kernel
theorem dL_cancel_17 : decode cL_cancel 17 = .ok (.ireturn, 1) := by decide +kernel
theorem dL_cancel_18 : decode cL_cancel 18 = .ok (.iconst 0, 1) := by decide +kernel
theorem dL_cancel_19 : decode cL_cancel 19 = .ok (.ireturn, 1) := by decide +kernel
theorem dL_replace_0 : decode cL_replace 0 = .ok (.aload_n 3, 1) := by decide +kernel
theorem dL_replace_1 : decode cL_replace 1 = .ok (.iconst 0, 1) := by decide +kernel
theorem dL_replace_2 : decode cL_replace 2 = .ok (.aload_n 0, 1) := by decide +kernel
theorem dL_replace_3 : decode cL_replace 3 = .ok (.iload_n 1, 1) := by decide +kernel
theorem dL_replace_4 : decode cL_replace 4 = .ok (.iload_n 2, 1) := by decide +kernel
theorem dL_replace_5 : decode cL_replace 5 = .ok (.invokevirtual 52, 3) := by decide +kernel
theorem dL_replace_8 : decode cL_replace 8 = .ok (.i2l, 1) := by decide +kernel
theorem dL_replace_9 : decode cL_replace 9 = .ok (.lastore, 1) := by decide +kernel
theorem dL_replace_10 : decode cL_replace 10 = .ok (.goto 11, 3) := by decide +kernel
theorem dL_replace_13 : decode cL_replace 13 = .ok (.astore 4, 2) := by decide +kernel
theorem dL_replace_15 : decode cL_replace 15 = .ok (.iconst 1, 1) := by decide +kernel
theorem dL_replace_16 : decode cL_replace 16 = .ok (.ireturn, 1) := by decide +kernel
theorem dL_replace_17 : decode cL_replace 17 = .ok (.astore 4, 2) := by decide +kernel
theorem dL_replace_19 : decode cL_replace 19 = .ok (.iconst 2, 1) := by decide +kernel
theorem dL_replace_20 : decode cL_replace 20 = .ok (.ireturn, 1) := by decide +kernel
theorem dL_replace_21 : decode cL_replace 21 = .ok (.iconst 0, 1) := by decide +kernel
theorem dL_replace_22 : decode cL_replace 22 = .ok (.ireturn, 1) := by decide +kernel
theorem dL_pass_0 : decode cL_pass 0 = .ok (.aload_n 2, 1) := by decide +kernel
theorem dL_pass_1 : decode cL_pass 1 = .ok (.iconst 0, 1) := by decide +kernel
theorem dL_pass_2 : decode cL_pass 2 = .ok (.aload_n 0, 1) := by decide +kernel
theorem dL_pass_3 : decode cL_pass 3 = .ok (.iload_n 1, 1) := by decide +kernel
theorem dL_pass_4 : decode cL_pass 4 = .ok (.invokevirtual 55, 3) := by decide +kernel
theorem dL_pass_7 : decode cL_pass 7 = .ok (.i2l, 1) := by decide +kernel
theorem dL_pass_8 : decode cL_pass 8 = .ok (.lastore, 1) := by decide +kernel
theorem dL_pass_9 : decode cL_pass 9 = .ok (.goto 9, 3) := by decide +kernel
theorem dL_pass_12 : decode cL_pass 12 = .ok (.astore_n 3, 1) := by decide +kernel
theorem dL_pass_13 : decode cL_pass 13 = .ok (.iconst 1, 1) := by decide +kernel
theorem dL_pass_14 : decode cL_pass 14 = .ok (.ireturn, 1) := by decide +kernel
theorem dL_pass_15 : decode cL_pass 15 = .ok (.astore_n 3, 1) := by decide +kernel
theorem dL_pass_16 : decode cL_pass 16 = .ok (.iconst 2, 1) := by decide +kernel
theorem dL_pass_17 : decode cL_pass 17 = .ok (.ireturn, 1) := by decide +kernel
theorem dL_pass_18 : decode cL_pass 18 = .ok (.iconst 0, 1) := by decide +kernel
theorem dL_pass_19 : decode cL_pass 19 = .ok (.ireturn, 1) := by decide +kernel
theorem dL_state_0 : decode cL_state 0 = .ok (.aload_n 2, 1) := by decide +kernel
theorem dL_state_1 : decode cL_state 1 = .ok (.iconst 0, 1) := by decide +kernel
theorem dL_state_2 : decode cL_state 2 = .ok (.aload_n 0, 1) := by decide +kernel
theorem dL_state_3 : decode cL_state 3 = .ok (.iload_n 1, 1) := by decide +kernel
theorem dL_state_4 : decode cL_state 4 = .ok (.invokevirtual 58, 3) := by decide +kernel
theorem dL_state_7 : decode cL_state 7 = .ok (.i2l, 1) := by decide +kernel
theorem dL_state_8 : decode cL_state 8 = .ok (.lastore, 1) := by decide +kernel
theorem dL_state_9 : decode cL_state 9 = .ok (.goto 6, 3) := by decide +kernel
theorem dL_state_12 : decode cL_state 12 = .ok (.astore_n 3, 1) := by decide +kernel
theorem dL_state_13 : decode cL_state 13 = .ok (.iconst 1, 1) := by decide +kernel
theorem dL_state_14 : decode cL_state 14 = .ok (.ireturn, 1) := by decide +kernel
theorem dL_state_15 : decode cL_state 15 = .ok (.iconst 0, 1) := by decide +kernel
theorem dL_state_16 : decode cL_state 16 = .ok (.ireturn, 1) := by decide +kernel
theorem dL_ends_0 : decode cL_ends 0 = .ok (.aload_n 2, 1) := by decide +kernel
theorem dL_ends_1 : decode cL_ends 1 = .ok (.iconst 0, 1) := by decide +kernel
theorem dL_ends_2 : decode cL_ends 2 = .ok (.aload_n 0, 1) := by decide +kernel
theorem dL_ends_3 : decode cL_ends 3 = .ok (.iload_n 1, 1) := by decide +kernel
theorem dL_ends_4 : decode cL_ends 4 = .ok (.invokevirtual 61, 3) := by decide +kernel
theorem dL_ends_7 : decode cL_ends 7 = .ok (.i2l, 1) := by decide +kernel
theorem dL_ends_8 : decode cL_ends 8 = .ok (.lastore, 1) := by decide +kernel
theorem dL_ends_9 : decode cL_ends 9 = .ok (.goto 6, 3) := by decide +kernel
theorem dL_ends_12 : decode cL_ends 12 = .ok (.astore_n 3, 1) := by decide +kernel
theorem dL_ends_13 : decode cL_ends 13 = .ok (.iconst 1, 1) := by decide +kernel
theorem dL_ends_14 : decode cL_ends 14 = .ok (.ireturn, 1) := by decide +kernel
theorem dL_ends_15 : decode cL_ends 15 = .ok (.iconst 0, 1) := by decide +kernel
theorem dL_ends_16 : decode cL_ends 16 = .ok (.ireturn, 1) := by decide +kernel
theorem dL_busAfter_0 : decode cL_busAfter 0 = .ok (.aload_n 2, 1) := by decide +kernel
theorem dL_busAfter_1 : decode cL_busAfter 1 = .ok (.iconst 0, 1) := by decide +kernel
theorem dL_busAfter_2 : decode cL_busAfter 2 = .ok (.aload_n 0, 1) := by decide +kernel
theorem dL_busAfter_3 : decode cL_busAfter 3 = .ok (.iload_n 1, 1) := by decide +kernel
theorem dL_busAfter_4 : decode cL_busAfter 4 = .ok (.invokevirtual 64, 3) := by decide +kernel
theorem dL_busAfter_7 : decode cL_busAfter 7 = .ok (.i2l, 1) := by decide +kernel
theorem dL_busAfter_8 : decode cL_busAfter 8 = .ok (.lastore, 1) := by decide +kernel
theorem dL_busAfter_9 : decode cL_busAfter 9 = .ok (.goto 6, 3) := by decide +kernel
theorem dL_busAfter_12 : decode cL_busAfter 12 = .ok (.astore_n 3, 1) := by decide +kernel
theorem dL_busAfter_13 : decode cL_busAfter 13 = .ok (.iconst 1, 1) := by decide +kernel
theorem dL_busAfter_14 : decode cL_busAfter 14 = .ok (.ireturn, 1) := by decide +kernel
theorem dL_busAfter_15 : decode cL_busAfter 15 = .ok (.iconst 0, 1) := by decide +kernel
theorem dL_busAfter_16 : decode cL_busAfter 16 = .ok (.ireturn, 1) := by decide +kernel
theorem dL_place_0 : decode cL_place 0 = .ok (.aload_n 2, 1) := by decide +kernel
theorem dL_place_1 : decode cL_place 1 = .ok (.iconst 0, 1) := by decide +kernel
theorem dL_place_2 : decode cL_place 2 = .ok (.aload_n 0, 1) := by decide +kernel
theorem dL_place_3 : decode cL_place 3 = .ok (.iload_n 1, 1) := by decide +kernel
theorem dL_place_4 : decode cL_place 4 = .ok (.invokevirtual 67, 3) := by decide +kernel
theorem dL_place_7 : decode cL_place 7 = .ok (.i2l, 1) := by decide +kernel
theorem dL_place_8 : decode cL_place 8 = .ok (.lastore, 1) := by decide +kernel
theorem dL_place_9 : decode cL_place 9 = .ok (.goto 6, 3) := by decide +kernel
theorem dL_place_12 : decode cL_place 12 = .ok (.astore_n 3, 1) := by decide +kernel
theorem dL_place_13 : decode cL_place 13 = .ok (.iconst 1, 1) := by decide +kernel
theorem dL_place_14 : decode cL_place 14 = .ok (.ireturn, 1) := by decide +kernel
theorem dL_place_15 : decode cL_place 15 = .ok (.iconst 0, 1) := by decide +kernel
theorem dL_place_16 : decode cL_place 16 = .ok (.ireturn, 1) := by decide +kernel
theorem dL_placeByLine_0 : decode cL_placeByLine 0 = .ok (.aload_n 3, 1) := by decide +kernel
theorem dL_placeByLine_1 : decode cL_placeByLine 1 = .ok (.iconst 0, 1) := by decide +kernel
theorem dL_placeByLine_2 : decode cL_placeByLine 2 = .ok (.aload_n 0, 1) := by decide +kernel
theorem dL_placeByLine_3 : decode cL_placeByLine 3 = .ok (.iload_n 1, 1) := by decide +kernel
theorem dL_placeByLine_4 : decode cL_placeByLine 4 = .ok (.iload_n 2, 1) := by decide +kernel
theorem dL_placeByLine_5 : decode cL_placeByLine 5 = .ok (.invokevirtual 70, 3) := by decide +kernel
theorem dL_placeByLine_8 : decode cL_placeByLine 8 = .ok (.i2l, 1) := by decide +kernel
theorem dL_placeByLine_9 : decode cL_placeByLine 9 = .ok (.lastore, 1) := by decide +kernel
theorem dL_placeByLine_10 : decode cL_placeByLine 10 = .ok (.goto 11, 3) := by decide +kernel
theorem dL_placeByLine_13 : decode cL_placeByLine 13 = .ok (.astore 4, 2) := by decide +kernel
theorem dL_placeByLine_15 : decode cL_placeByLine 15 = .ok (.iconst 1, 1) := by decide +kernel
theorem dL_placeByLine_16 : decode cL_placeByLine 16 = .ok (.ireturn, 1) := by decide +kernel
theorem dL_placeByLine_17 : decode cL_placeByLine 17 = .ok (.astore 4, 2) := by decide +kernel
theorem dL_placeByLine_19 : decode cL_placeByLine 19 = .ok (.iconst 2, 1) := by decide +kernel
theorem dL_placeByLine_20 : decode cL_placeByLine 20 = .ok (.ireturn, 1) := by decide +kernel
theorem dL_placeByLine_21 : decode cL_placeByLine 21 = .ok (.iconst 0, 1) := by decide +kernel
theorem dL_placeByLine_22 : decode cL_placeByLine 22 = .ok (.ireturn, 1) := by decide +kernel
theorem dL_fuel_0 : decode cL_fuel 0 = .ok (.aload_n 2, 1) := by decide +kernel
theorem dL_fuel_1 : decode cL_fuel 1 = .ok (.iconst 0, 1) := by decide +kernel
theorem dL_fuel_2 : decode cL_fuel 2 = .ok (.aload_n 0, 1) := by decide +kernel
theorem dL_fuel_3 : decode cL_fuel 3 = .ok (.iload_n 1, 1) := by decide +kernel
theorem dL_fuel_4 : decode cL_fuel 4 = .ok (.invokevirtual 73, 3) := by decide +kernel
theorem dL_fuel_7 : decode cL_fuel 7 = .ok (.i2l, 1) := by decide +kernel
theorem dL_fuel_8 : decode cL_fuel 8 = .ok (.lastore, 1) := by decide +kernel
theorem dL_fuel_9 : decode cL_fuel 9 = .ok (.goto 6, 3) := by decide +kernel
theorem dL_fuel_12 : decode cL_fuel 12 = .ok (.astore_n 3, 1) := by decide +kernel
theorem dL_fuel_13 : decode cL_fuel 13 = .ok (.iconst 1, 1) := by decide +kernel
theorem dL_fuel_14 : decode cL_fuel 14 = .ok (.ireturn, 1) := by decide +kernel
theorem dL_fuel_15 : decode cL_fuel 15 = .ok (.iconst 0, 1) := by decide +kernel
theorem dL_fuel_16 : decode cL_fuel 16 = .ok (.ireturn, 1) := by decide +kernel
theorem dL_book_0 : decode cL_book 0 = .ok (.aload 7, 2) := by decide +kernel
theorem dL_book_2 : decode cL_book 2 = .ok (.iconst 0, 1) := by decide +kernel
theorem dL_book_3 : decode cL_book 3 = .ok (.aload_n 0, 1) := by decide +kernel
theorem dL_book_4 : decode cL_book 4 = .ok (.iload_n 1, 1) := by decide +kernel
theorem dL_book_5 : decode cL_book 5 = .ok (.iload_n 2, 1) := by decide +kernel
theorem dL_book_6 : decode cL_book 6 = .ok (.iload_n 3, 1) := by decide +kernel
theorem dL_book_7 : decode cL_book 7 = .ok (.iload 4, 2) := by decide +kernel
theorem dL_book_9 : decode cL_book 9 = .ok (.iload 5, 2) := by decide +kernel
theorem dL_book_11 : decode cL_book 11 = .ok (.iload 6, 2) := by decide +kernel
theorem dL_book_13 : decode cL_book 13 = .ok (.invokevirtual 76, 3) := by decide +kernel
theorem dL_book_16 : decode cL_book 16 = .ok (.i2l, 1) := by decide +kernel
theorem dL_book_17 : decode cL_book 17 = .ok (.lastore, 1) := by decide +kernel
theorem dL_book_18 : decode cL_book 18 = .ok (.goto 15, 3) := by decide +kernel
theorem dL_book_21 : decode cL_book 21 = .ok (.astore 8, 2) := by decide +kernel
theorem dL_book_23 : decode cL_book 23 = .ok (.iconst 1, 1) := by decide +kernel
theorem dL_book_24 : decode cL_book 24 = .ok (.ireturn, 1) := by decide +kernel
theorem dL_book_25 : decode cL_book 25 = .ok (.astore 8, 2) := by decide +kernel
theorem dL_book_27 : decode cL_book 27 = .ok (.iconst 2, 1) := by decide +kernel
theorem dL_book_28 : decode cL_book 28 = .ok (.ireturn, 1) := by decide +kernel
theorem dL_book_29 : decode cL_book 29 = .ok (.astore 8, 2) := by decide +kernel
theorem dL_book_31 : decode cL_book 31 = .ok (.iconst 3, 1) := by decide +kernel
theorem dL_book_32 : decode cL_book 32 = .ok (.ireturn, 1) := by decide +kernel
theorem dL_book_33 : decode cL_book 33 = .ok (.iconst 0, 1) := by decide +kernel
theorem dL_book_34 : decode cL_book 34 = .ok (.ireturn, 1) := by decide +kernel
theorem dL_sailingOf_0 : decode cL_sailingOf 0 = .ok (.aload_n 2, 1) := by decide +kernel
theorem dL_sailingOf_1 : decode cL_sailingOf 1 = .ok (.iconst 0, 1) := by decide +kernel
theorem dL_sailingOf_2 : decode cL_sailingOf 2 = .ok (.aload_n 0, 1) := by decide +kernel
theorem dL_sailingOf_3 : decode cL_sailingOf 3 = .ok (.iload_n 1, 1) := by decide +kernel
theorem dL_sailingOf_4 : decode cL_sailingOf 4 = .ok (.invokevirtual 80, 3) := by decide +kernel
theorem dL_sailingOf_7 : decode cL_sailingOf 7 = .ok (.i2l, 1) := by decide +kernel
theorem dL_sailingOf_8 : decode cL_sailingOf 8 = .ok (.lastore, 1) := by decide +kernel
theorem dL_sailingOf_9 : decode cL_sailingOf 9 = .ok (.goto 6, 3) := by decide +kernel
theorem dL_sailingOf_12 : decode cL_sailingOf 12 = .ok (.astore_n 3, 1) := by decide +kernel
theorem dL_sailingOf_13 : decode cL_sailingOf 13 = .ok (.iconst 1, 1) := by decide +kernel
theorem dL_sailingOf_14 : decode cL_sailingOf 14 = .ok (.ireturn, 1) := by decide +kernel
theorem dL_sailingOf_15 : decode cL_sailingOf 15 = .ok (.iconst 0, 1) := by decide +kernel
theorem dL_sailingOf_16 : decode cL_sailingOf 16 = .ok (.ireturn, 1) := by decide +kernel
theorem dL_lane_0 : decode cL_lane 0 = .ok (.aload_n 2, 1) := by decide +kernel
theorem dL_lane_1 : decode cL_lane 1 = .ok (.iconst 0, 1) := by decide +kernel
theorem dL_lane_2 : decode cL_lane 2 = .ok (.aload_n 0, 1) := by decide +kernel
theorem dL_lane_3 : decode cL_lane 3 = .ok (.iload_n 1, 1) := by decide +kernel
theorem dL_lane_4 : decode cL_lane 4 = .ok (.invokevirtual 83, 3) := by decide +kernel
theorem dL_lane_7 : decode cL_lane 7 = .ok (.i2l, 1) := by decide +kernel
theorem dL_lane_8 : decode cL_lane 8 = .ok (.lastore, 1) := by decide +kernel
theorem dL_lane_9 : decode cL_lane 9 = .ok (.goto 6, 3) := by decide +kernel
theorem dL_lane_12 : decode cL_lane 12 = .ok (.astore_n 3, 1) := by decide +kernel
theorem dL_lane_13 : decode cL_lane 13 = .ok (.iconst 1, 1) := by decide +kernel
theorem dL_lane_14 : decode cL_lane 14 = .ok (.ireturn, 1) := by decide +kernel
theorem dL_lane_15 : decode cL_lane 15 = .ok (.iconst 0, 1) := by decide +kernel
theorem dL_lane_16 : decode cL_lane 16 = .ok (.ireturn, 1) := by decide +kernel
theorem dL_paid_0 : decode cL_paid 0 = .ok (.aload_n 2, 1) := by decide +kernel
theorem dL_paid_1 : decode cL_paid 1 = .ok (.iconst 0, 1) := by decide +kernel
theorem dL_paid_2 : decode cL_paid 2 = .ok (.aload_n 0, 1) := by decide +kernel
theorem dL_paid_3 : decode cL_paid 3 = .ok (.iload_n 1, 1) := by decide +kernel
theorem dL_paid_4 : decode cL_paid 4 = .ok (.invokevirtual 86, 3) := by decide +kernel
theorem dL_paid_7 : decode cL_paid 7 = .ok (.i2l, 1) := by decide +kernel
theorem dL_paid_8 : decode cL_paid 8 = .ok (.lastore, 1) := by decide +kernel
theorem dL_paid_9 : decode cL_paid 9 = .ok (.goto 6, 3) := by decide +kernel
theorem dL_paid_12 : decode cL_paid 12 = .ok (.astore_n 3, 1) := by decide +kernel
theorem dL_paid_13 : decode cL_paid 13 = .ok (.iconst 1, 1) := by decide +kernel
theorem dL_paid_14 : decode cL_paid 14 = .ok (.ireturn, 1) := by decide +kernel
theorem dL_paid_15 : decode cL_paid 15 = .ok (.iconst 0, 1) := by decide +kernel
theorem dL_paid_16 : decode cL_paid 16 = .ok (.ireturn, 1) := by decide +kernel
theorem dL_taken_0 : decode cL_taken 0 = .ok (.aload_n 2, 1) := by decide +kernel
theorem dL_taken_1 : decode cL_taken 1 = .ok (.iconst 0, 1) := by decide +kernel
theorem dL_taken_2 : decode cL_taken 2 = .ok (.aload_n 0, 1) := by decide +kernel
theorem dL_taken_3 : decode cL_taken 3 = .ok (.iload_n 1, 1) := by decide +kernel
theorem dL_taken_4 : decode cL_taken 4 = .ok (.invokevirtual 89, 3) := by decide +kernel
theorem dL_taken_7 : decode cL_taken 7 = .ok (.i2l, 1) := by decide +kernel
theorem dL_taken_8 : decode cL_taken 8 = .ok (.lastore, 1) := by decide +kernel
theorem dL_taken_9 : decode cL_taken 9 = .ok (.goto 6, 3) := by decide +kernel
theorem dL_taken_12 : decode cL_taken 12 = .ok (.astore_n 3, 1) := by decide +kernel
theorem dL_taken_13 : decode cL_taken 13 = .ok (.iconst 1, 1) := by decide +kernel
theorem dL_taken_14 : decode cL_taken 14 = .ok (.ireturn, 1) := by decide +kernel
theorem dL_taken_15 : decode cL_taken 15 = .ok (.iconst 0, 1) := by decide +kernel
theorem dL_taken_16 : decode cL_taken 16 = .ok (.ireturn, 1) := by decide +kernel
theorem dL_list_0 : decode cL_list 0 = .ok (.aload_n 2, 1) := by decide +kernel
theorem dL_list_1 : decode cL_list 1 = .ok (.iconst 0, 1) := by decide +kernel
theorem dL_list_2 : decode cL_list 2 = .ok (.aload_n 0, 1) := by decide +kernel
theorem dL_list_3 : decode cL_list 3 = .ok (.iload_n 1, 1) := by decide +kernel
theorem dL_list_4 : decode cL_list 4 = .ok (.invokevirtual 92, 3) := by decide +kernel
theorem dL_list_7 : decode cL_list 7 = .ok (.i2l, 1) := by decide +kernel
theorem dL_list_8 : decode cL_list 8 = .ok (.lastore, 1) := by decide +kernel
theorem dL_list_9 : decode cL_list 9 = .ok (.goto 9, 3) := by decide +kernel
theorem dL_list_12 : decode cL_list 12 = .ok (.astore_n 3, 1) := by decide +kernel
theorem dL_list_13 : decode cL_list 13 = .ok (.iconst 1, 1) := by decide +kernel
theorem dL_list_14 : decode cL_list 14 = .ok (.ireturn, 1) := by decide +kernel
theorem dL_list_15 : decode cL_list 15 = .ok (.astore_n 3, 1) := by decide +kernel
theorem dL_list_16 : decode cL_list 16 = .ok (.iconst 2, 1) := by decide +kernel
theorem dL_list_17 : decode cL_list 17 = .ok (.ireturn, 1) := by decide +kernel
theorem dL_list_18 : decode cL_list 18 = .ok (.iconst 0, 1) := by decide +kernel
theorem dL_list_19 : decode cL_list 19 = .ok (.ireturn, 1) := by decide +kernel
theorem dL_account_0 : decode cL_account 0 = .ok (.aload_n 2, 1) := by decide +kernel
theorem dL_account_1 : decode cL_account 1 = .ok (.iconst 0, 1) := by decide +kernel
theorem dL_account_2 : decode cL_account 2 = .ok (.aload_n 0, 1) := by decide +kernel
theorem dL_account_3 : decode cL_account 3 = .ok (.iload_n 1, 1) := by decide +kernel
theorem dL_account_4 : decode cL_account 4 = .ok (.invokevirtual 97, 3) := by decide +kernel
theorem dL_account_7 : decode cL_account 7 = .ok (.lastore, 1) := by decide +kernel
theorem dL_account_8 : decode cL_account 8 = .ok (.goto 6, 3) := by decide +kernel
theorem dL_account_11 : decode cL_account 11 = .ok (.astore_n 3, 1) := by decide +kernel
theorem dL_account_12 : decode cL_account 12 = .ok (.iconst 1, 1) := by decide +kernel
theorem dL_account_13 : decode cL_account 13 = .ok (.ireturn, 1) := by decide +kernel
theorem dL_account_14 : decode cL_account 14 = .ok (.iconst 0, 1) := by decide +kernel
theorem dL_account_15 : decode cL_account 15 = .ok (.ireturn, 1) := by decide +kernel
theorem dL_accountAnew_0 : decode cL_accountAnew 0 = .ok (.aload_n 2, 1) := by decide +kernel
theorem dL_accountAnew_1 : decode cL_accountAnew 1 = .ok (.iconst 0, 1) := by decide +kernel
theorem dL_accountAnew_2 : decode cL_accountAnew 2 = .ok (.aload_n 0, 1) := by decide +kernel
theorem dL_accountAnew_3 : decode cL_accountAnew 3 = .ok (.iload_n 1, 1) := by decide +kernel
theorem dL_accountAnew_4 : decode cL_accountAnew 4 = .ok (.invokevirtual 101, 3) := by decide +kernel
theorem dL_accountAnew_7 : decode cL_accountAnew 7 = .ok (.lastore, 1) := by decide +kernel
theorem dL_accountAnew_8 : decode cL_accountAnew 8 = .ok (.goto 6, 3) := by decide +kernel
theorem dL_accountAnew_11 : decode cL_accountAnew 11 = .ok (.astore_n 3, 1) := by decide +kernel
theorem dL_accountAnew_12 : decode cL_accountAnew 12 = .ok (.iconst 1, 1) := by decide +kernel
theorem dL_accountAnew_13 : decode cL_accountAnew 13 = .ok (.ireturn, 1) := by decide +kernel
theorem dL_accountAnew_14 : decode cL_accountAnew 14 = .ok (.iconst 0, 1) := by decide +kernel
theorem dL_accountAnew_15 : decode cL_accountAnew 15 = .ok (.ireturn, 1) := by decide +kernel
theorem dL_law_0 : decode cL_law 0 = .ok (.new 8, 3) := by decide +kernel
theorem dL_law_3 : decode cL_law 3 = .ok (.dup, 1) := by decide +kernel
theorem dL_law_4 : decode cL_law 4 = .ok (.invokespecial 104, 3) := by decide +kernel
theorem dL_law_7 : decode cL_law 7 = .ok (.astore_n 1, 1) := by decide +kernel
theorem dL_law_8 : decode cL_law 8 = .ok (.new 105, 3) := by decide +kernel
theorem dL_law_11 : decode cL_law 11 = .ok (.dup, 1) := by decide +kernel
theorem dL_law_12 : decode cL_law 12 = .ok (.invokespecial 107, 3) := by decide +kernel
theorem dL_law_15 : decode cL_law 15 = .ok (.astore_n 2, 1) := by decide +kernel
theorem dL_law_16 : decode cL_law 16 = .ok (.iconst 1, 1) := by decide +kernel
theorem dL_law_17 : decode cL_law 17 = .ok (.newarray .long, 2) := by decide +kernel
theorem dL_law_19 : decode cL_law 19 = .ok (.astore_n 3, 1) := by decide +kernel
theorem dL_law_20 : decode cL_law 20 = .ok (.iconst 0, 1) := by decide +kernel
theorem dL_law_21 : decode cL_law 21 = .ok (.istore 4, 2) := by decide +kernel
theorem dL_law_23 : decode cL_law 23 = .ok (.iload 4, 2) := by decide +kernel
theorem dL_law_25 : decode cL_law 25 = .ok (.aload_n 0, 1) := by decide +kernel
theorem dL_law_26 : decode cL_law 26 = .ok (.arraylength, 1) := by decide +kernel
theorem dL_law_27 : decode cL_law 27 = .ok (.bipush 7, 2) := by decide +kernel
theorem dL_law_29 : decode cL_law 29 = .ok (.isub, 1) := by decide +kernel
theorem dL_law_30 : decode cL_law 30 = .ok (.if_icmp .gt 1899, 3) := by decide +kernel
theorem dL_law_33 : decode cL_law 33 = .ok (.aload_n 0, 1) := by decide +kernel
theorem dL_law_34 : decode cL_law 34 = .ok (.iload 4, 2) := by decide +kernel
theorem dL_law_36 : decode cL_law 36 = .ok (.iaload, 1) := by decide +kernel
theorem dL_law_37 : decode cL_law 37 = .ok (.bipush 31, 2) := by decide +kernel
theorem dL_law_39 : decode cL_law 39 = .ok (.iand, 1) := by decide +kernel
theorem dL_law_40 : decode cL_law 40 = .ok (.tableswitch 1883 0 26 #[124, 242, 310, 390, 458, 526, 598, 658, 726, 818, 874, 942, 998, 1011, 1067, 1123, 1179, 1235, 1303, 1359, 1493, 1549, 1605, 1661, 1717, 1773, 1828], 124) := by decide +kernel
theorem dL_law_164 : decode cL_law 164 = .ok (.aload_n 1, 1) := by decide +kernel
theorem dL_law_165 : decode cL_law 165 = .ok (.aload_n 0, 1) := by decide +kernel
theorem dL_law_166 : decode cL_law 166 = .ok (.iload 4, 2) := by decide +kernel
theorem dL_law_168 : decode cL_law 168 = .ok (.iconst 1, 1) := by decide +kernel
theorem dL_law_169 : decode cL_law 169 = .ok (.iadd, 1) := by decide +kernel
theorem dL_law_170 : decode cL_law 170 = .ok (.iaload, 1) := by decide +kernel
theorem dL_law_171 : decode cL_law 171 = .ok (.aload_n 0, 1) := by decide +kernel
theorem dL_law_172 : decode cL_law 172 = .ok (.iload 4, 2) := by decide +kernel
theorem dL_law_174 : decode cL_law 174 = .ok (.iconst 2, 1) := by decide +kernel
theorem dL_law_175 : decode cL_law 175 = .ok (.iadd, 1) := by decide +kernel
theorem dL_law_176 : decode cL_law 176 = .ok (.iaload, 1) := by decide +kernel
theorem dL_law_177 : decode cL_law 177 = .ok (.aload_n 0, 1) := by decide +kernel
theorem dL_law_178 : decode cL_law 178 = .ok (.iload 4, 2) := by decide +kernel
theorem dL_law_180 : decode cL_law 180 = .ok (.iconst 3, 1) := by decide +kernel
theorem dL_law_181 : decode cL_law 181 = .ok (.iadd, 1) := by decide +kernel
theorem dL_law_182 : decode cL_law 182 = .ok (.iaload, 1) := by decide +kernel
theorem dL_law_183 : decode cL_law 183 = .ok (.aload_n 0, 1) := by decide +kernel
theorem dL_law_184 : decode cL_law 184 = .ok (.iload 4, 2) := by decide +kernel
theorem dL_law_186 : decode cL_law 186 = .ok (.iconst 4, 1) := by decide +kernel
theorem dL_law_187 : decode cL_law 187 = .ok (.iadd, 1) := by decide +kernel
theorem dL_law_188 : decode cL_law 188 = .ok (.iaload, 1) := by decide +kernel
theorem dL_law_189 : decode cL_law 189 = .ok (.aload_n 0, 1) := by decide +kernel
theorem dL_law_190 : decode cL_law 190 = .ok (.iload 4, 2) := by decide +kernel
theorem dL_law_192 : decode cL_law 192 = .ok (.iconst 5, 1) := by decide +kernel
theorem dL_law_193 : decode cL_law 193 = .ok (.iadd, 1) := by decide +kernel
theorem dL_law_194 : decode cL_law 194 = .ok (.iaload, 1) := by decide +kernel
theorem dL_law_195 : decode cL_law 195 = .ok (.aload_n 0, 1) := by decide +kernel
theorem dL_law_196 : decode cL_law 196 = .ok (.iload 4, 2) := by decide +kernel
theorem dL_law_198 : decode cL_law 198 = .ok (.bipush 6, 2) := by decide +kernel
theorem dL_law_200 : decode cL_law 200 = .ok (.iadd, 1) := by decide +kernel
theorem dL_law_201 : decode cL_law 201 = .ok (.iaload, 1) := by decide +kernel
theorem dL_law_202 : decode cL_law 202 = .ok (.aload_n 3, 1) := by decide +kernel
theorem dL_law_203 : decode cL_law 203 = .ok (.invokestatic 108, 3) := by decide +kernel
theorem dL_law_206 : decode cL_law 206 = .ok (.istore 5, 2) := by decide +kernel
theorem dL_law_208 : decode cL_law 208 = .ok (.aload_n 2, 1) := by decide +kernel
theorem dL_law_209 : decode cL_law 209 = .ok (.aload_n 0, 1) := by decide +kernel
theorem dL_law_210 : decode cL_law 210 = .ok (.iload 4, 2) := by decide +kernel
theorem dL_law_212 : decode cL_law 212 = .ok (.iconst 1, 1) := by decide +kernel
theorem dL_law_213 : decode cL_law 213 = .ok (.iadd, 1) := by decide +kernel
theorem dL_law_214 : decode cL_law 214 = .ok (.iaload, 1) := by decide +kernel
theorem dL_law_215 : decode cL_law 215 = .ok (.aload_n 0, 1) := by decide +kernel
theorem dL_law_216 : decode cL_law 216 = .ok (.iload 4, 2) := by decide +kernel
theorem dL_law_218 : decode cL_law 218 = .ok (.iconst 2, 1) := by decide +kernel
theorem dL_law_219 : decode cL_law 219 = .ok (.iadd, 1) := by decide +kernel
theorem dL_law_220 : decode cL_law 220 = .ok (.iaload, 1) := by decide +kernel
theorem dL_law_221 : decode cL_law 221 = .ok (.aload_n 0, 1) := by decide +kernel
theorem dL_law_222 : decode cL_law 222 = .ok (.iload 4, 2) := by decide +kernel
theorem dL_law_224 : decode cL_law 224 = .ok (.iconst 3, 1) := by decide +kernel
theorem dL_law_225 : decode cL_law 225 = .ok (.iadd, 1) := by decide +kernel
theorem dL_law_226 : decode cL_law 226 = .ok (.iaload, 1) := by decide +kernel
theorem dL_law_227 : decode cL_law 227 = .ok (.aload_n 0, 1) := by decide +kernel
theorem dL_law_228 : decode cL_law 228 = .ok (.iload 4, 2) := by decide +kernel
theorem dL_law_230 : decode cL_law 230 = .ok (.iconst 4, 1) := by decide +kernel
theorem dL_law_231 : decode cL_law 231 = .ok (.iadd, 1) := by decide +kernel
theorem dL_law_232 : decode cL_law 232 = .ok (.iaload, 1) := by decide +kernel
theorem dL_law_233 : decode cL_law 233 = .ok (.aload_n 0, 1) := by decide +kernel
theorem dL_law_234 : decode cL_law 234 = .ok (.iload 4, 2) := by decide +kernel
theorem dL_law_236 : decode cL_law 236 = .ok (.iconst 5, 1) := by decide +kernel
theorem dL_law_237 : decode cL_law 237 = .ok (.iadd, 1) := by decide +kernel
theorem dL_law_238 : decode cL_law 238 = .ok (.iaload, 1) := by decide +kernel
theorem dL_law_239 : decode cL_law 239 = .ok (.aload_n 0, 1) := by decide +kernel
theorem dL_law_240 : decode cL_law 240 = .ok (.iload 4, 2) := by decide +kernel
theorem dL_law_242 : decode cL_law 242 = .ok (.bipush 6, 2) := by decide +kernel
theorem dL_law_244 : decode cL_law 244 = .ok (.iadd, 1) := by decide +kernel
theorem dL_law_245 : decode cL_law 245 = .ok (.iaload, 1) := by decide +kernel
theorem dL_law_246 : decode cL_law 246 = .ok (.invokevirtual 113, 3) := by decide +kernel
theorem dL_law_249 : decode cL_law 249 = .ok (.istore 6, 2) := by decide +kernel
theorem dL_law_251 : decode cL_law 251 = .ok (.aload_n 2, 1) := by decide +kernel
theorem dL_law_252 : decode cL_law 252 = .ok (.invokevirtual 114, 3) := by decide +kernel
theorem dL_law_255 : decode cL_law 255 = .ok (.iload 5, 2) := by decide +kernel
theorem dL_law_257 : decode cL_law 257 = .ok (.if_icmp .eq 5, 3) := by decide +kernel
theorem dL_law_260 : decode cL_law 260 = .ok (.iconst 0, 1) := by decide +kernel
theorem dL_law_261 : decode cL_law 261 = .ok (.ireturn, 1) := by decide +kernel
theorem dL_law_262 : decode cL_law 262 = .ok (.iload 5, 2) := by decide +kernel
theorem dL_law_264 : decode cL_law 264 = .ok (.ifCond .ne 15, 3) := by decide +kernel
theorem dL_law_267 : decode cL_law 267 = .ok (.aload_n 3, 1) := by decide +kernel
theorem dL_law_268 : decode cL_law 268 = .ok (.iconst 0, 1) := by decide +kernel
theorem dL_law_269 : decode cL_law 269 = .ok (.laload, 1) := by decide +kernel
theorem dL_law_270 : decode cL_law 270 = .ok (.iload 6, 2) := by decide +kernel
theorem dL_law_272 : decode cL_law 272 = .ok (.i2l, 1) := by decide +kernel
theorem dL_law_273 : decode cL_law 273 = .ok (.lcmp, 1) := by decide +kernel
theorem dL_law_274 : decode cL_law 274 = .ok (.ifCond .eq 5, 3) := by decide +kernel
theorem dL_law_277 : decode cL_law 277 = .ok (.iconst 0, 1) := by decide +kernel
theorem dL_law_278 : decode cL_law 278 = .ok (.ireturn, 1) := by decide +kernel
theorem dL_law_279 : decode cL_law 279 = .ok (.goto 1644, 3) := by decide +kernel
theorem dL_law_282 : decode cL_law 282 = .ok (.aload_n 1, 1) := by decide +kernel
theorem dL_law_283 : decode cL_law 283 = .ok (.aload_n 0, 1) := by decide +kernel
theorem dL_law_284 : decode cL_law 284 = .ok (.iload 4, 2) := by decide +kernel
theorem dL_law_286 : decode cL_law 286 = .ok (.iconst 1, 1) := by decide +kernel
theorem dL_law_287 : decode cL_law 287 = .ok (.iadd, 1) := by decide +kernel
theorem dL_law_288 : decode cL_law 288 = .ok (.iaload, 1) := by decide +kernel
theorem dL_law_289 : decode cL_law 289 = .ok (.aload_n 0, 1) := by decide +kernel
theorem dL_law_290 : decode cL_law 290 = .ok (.iload 4, 2) := by decide +kernel
theorem dL_law_292 : decode cL_law 292 = .ok (.iconst 2, 1) := by decide +kernel
theorem dL_law_293 : decode cL_law 293 = .ok (.iadd, 1) := by decide +kernel
theorem dL_law_294 : decode cL_law 294 = .ok (.iaload, 1) := by decide +kernel
theorem dL_law_295 : decode cL_law 295 = .ok (.aload_n 3, 1) := by decide +kernel
theorem dL_law_296 : decode cL_law 296 = .ok (.invokestatic 118, 3) := by decide +kernel
theorem dL_law_299 : decode cL_law 299 = .ok (.istore 5, 2) := by decide +kernel
theorem dL_law_301 : decode cL_law 301 = .ok (.aload_n 2, 1) := by decide +kernel
theorem dL_law_302 : decode cL_law 302 = .ok (.aload_n 0, 1) := by decide +kernel
theorem dL_law_303 : decode cL_law 303 = .ok (.iload 4, 2) := by decide +kernel
theorem dL_law_305 : decode cL_law 305 = .ok (.iconst 1, 1) := by decide +kernel
theorem dL_law_306 : decode cL_law 306 = .ok (.iadd, 1) := by decide +kernel
theorem dL_law_307 : decode cL_law 307 = .ok (.iaload, 1) := by decide +kernel
theorem dL_law_308 : decode cL_law 308 = .ok (.aload_n 0, 1) := by decide +kernel
theorem dL_law_309 : decode cL_law 309 = .ok (.iload 4, 2) := by decide +kernel
theorem dL_law_311 : decode cL_law 311 = .ok (.iconst 2, 1) := by decide +kernel
theorem dL_law_312 : decode cL_law 312 = .ok (.iadd, 1) := by decide +kernel
theorem dL_law_313 : decode cL_law 313 = .ok (.iaload, 1) := by decide +kernel
theorem dL_law_314 : decode cL_law 314 = .ok (.invokevirtual 121, 3) := by decide +kernel
theorem dL_law_317 : decode cL_law 317 = .ok (.istore 6, 2) := by decide +kernel
theorem dL_law_319 : decode cL_law 319 = .ok (.aload_n 2, 1) := by decide +kernel
theorem dL_law_320 : decode cL_law 320 = .ok (.invokevirtual 114, 3) := by decide +kernel
theorem dL_law_323 : decode cL_law 323 = .ok (.iload 5, 2) := by decide +kernel
theorem dL_law_325 : decode cL_law 325 = .ok (.if_icmp .eq 5, 3) := by decide +kernel
theorem dL_law_328 : decode cL_law 328 = .ok (.iconst 0, 1) := by decide +kernel
theorem dL_law_329 : decode cL_law 329 = .ok (.ireturn, 1) := by decide +kernel
theorem dL_law_330 : decode cL_law 330 = .ok (.iload 5, 2) := by decide +kernel
theorem dL_law_332 : decode cL_law 332 = .ok (.ifCond .ne 15, 3) := by decide +kernel
theorem dL_law_335 : decode cL_law 335 = .ok (.aload_n 3, 1) := by decide +kernel
theorem dL_law_336 : decode cL_law 336 = .ok (.iconst 0, 1) := by decide +kernel
theorem dL_law_337 : decode cL_law 337 = .ok (.laload, 1) := by decide +kernel
theorem dL_law_338 : decode cL_law 338 = .ok (.iload 6, 2) := by decide +kernel
theorem dL_law_340 : decode cL_law 340 = .ok (.i2l, 1) := by decide +kernel
theorem dL_law_341 : decode cL_law 341 = .ok (.lcmp, 1) := by decide +kernel
theorem dL_law_342 : decode cL_law 342 = .ok (.ifCond .eq 5, 3) := by decide +kernel
theorem dL_law_345 : decode cL_law 345 = .ok (.iconst 0, 1) := by decide +kernel
theorem dL_law_346 : decode cL_law 346 = .ok (.ireturn, 1) := by decide +kernel
theorem dL_law_347 : decode cL_law 347 = .ok (.goto 1576, 3) := by decide +kernel
theorem dL_law_350 : decode cL_law 350 = .ok (.aload_n 1, 1) := by decide +kernel
theorem dL_law_351 : decode cL_law 351 = .ok (.aload_n 0, 1) := by decide +kernel
theorem dL_law_352 : decode cL_law 352 = .ok (.iload 4, 2) := by decide +kernel
theorem dL_law_354 : decode cL_law 354 = .ok (.iconst 1, 1) := by decide +kernel
theorem dL_law_355 : decode cL_law 355 = .ok (.iadd, 1) := by decide +kernel
theorem dL_law_356 : decode cL_law 356 = .ok (.iaload, 1) := by decide +kernel
theorem dL_law_357 : decode cL_law 357 = .ok (.aload_n 0, 1) := by decide +kernel
theorem dL_law_358 : decode cL_law 358 = .ok (.iload 4, 2) := by decide +kernel
theorem dL_law_360 : decode cL_law 360 = .ok (.iconst 2, 1) := by decide +kernel
theorem dL_law_361 : decode cL_law 361 = .ok (.iadd, 1) := by decide +kernel
theorem dL_law_362 : decode cL_law 362 = .ok (.iaload, 1) := by decide +kernel
theorem dL_law_363 : decode cL_law 363 = .ok (.aload_n 0, 1) := by decide +kernel
theorem dL_law_364 : decode cL_law 364 = .ok (.iload 4, 2) := by decide +kernel
theorem dL_law_366 : decode cL_law 366 = .ok (.iconst 3, 1) := by decide +kernel
theorem dL_law_367 : decode cL_law 367 = .ok (.iadd, 1) := by decide +kernel
theorem dL_law_368 : decode cL_law 368 = .ok (.iaload, 1) := by decide +kernel
theorem dL_law_369 : decode cL_law 369 = .ok (.aload_n 3, 1) := by decide +kernel
theorem dL_law_370 : decode cL_law 370 = .ok (.invokestatic 122, 3) := by decide +kernel
theorem dL_law_373 : decode cL_law 373 = .ok (.istore 5, 2) := by decide +kernel
theorem dL_law_375 : decode cL_law 375 = .ok (.aload_n 2, 1) := by decide +kernel
theorem dL_law_376 : decode cL_law 376 = .ok (.aload_n 0, 1) := by decide +kernel
theorem dL_law_377 : decode cL_law 377 = .ok (.iload 4, 2) := by decide +kernel
theorem dL_law_379 : decode cL_law 379 = .ok (.iconst 1, 1) := by decide +kernel
theorem dL_law_380 : decode cL_law 380 = .ok (.iadd, 1) := by decide +kernel
theorem dL_law_381 : decode cL_law 381 = .ok (.iaload, 1) := by decide +kernel
theorem dL_law_382 : decode cL_law 382 = .ok (.aload_n 0, 1) := by decide +kernel
theorem dL_law_383 : decode cL_law 383 = .ok (.iload 4, 2) := by decide +kernel
theorem dL_law_385 : decode cL_law 385 = .ok (.iconst 2, 1) := by decide +kernel
theorem dL_law_386 : decode cL_law 386 = .ok (.iadd, 1) := by decide +kernel
theorem dL_law_387 : decode cL_law 387 = .ok (.iaload, 1) := by decide +kernel
theorem dL_law_388 : decode cL_law 388 = .ok (.aload_n 0, 1) := by decide +kernel
theorem dL_law_389 : decode cL_law 389 = .ok (.iload 4, 2) := by decide +kernel
theorem dL_law_391 : decode cL_law 391 = .ok (.iconst 3, 1) := by decide +kernel
theorem dL_law_392 : decode cL_law 392 = .ok (.iadd, 1) := by decide +kernel
theorem dL_law_393 : decode cL_law 393 = .ok (.iaload, 1) := by decide +kernel
theorem dL_law_394 : decode cL_law 394 = .ok (.invokevirtual 125, 3) := by decide +kernel
theorem dL_law_397 : decode cL_law 397 = .ok (.istore 6, 2) := by decide +kernel
theorem dL_law_399 : decode cL_law 399 = .ok (.aload_n 2, 1) := by decide +kernel
theorem dL_law_400 : decode cL_law 400 = .ok (.invokevirtual 114, 3) := by decide +kernel
theorem dL_law_403 : decode cL_law 403 = .ok (.iload 5, 2) := by decide +kernel
theorem dL_law_405 : decode cL_law 405 = .ok (.if_icmp .eq 5, 3) := by decide +kernel
theorem dL_law_408 : decode cL_law 408 = .ok (.iconst 0, 1) := by decide +kernel
theorem dL_law_409 : decode cL_law 409 = .ok (.ireturn, 1) := by decide +kernel
theorem dL_law_410 : decode cL_law 410 = .ok (.iload 5, 2) := by decide +kernel
theorem dL_law_412 : decode cL_law 412 = .ok (.ifCond .ne 15, 3) := by decide +kernel
theorem dL_law_415 : decode cL_law 415 = .ok (.aload_n 3, 1) := by decide +kernel
theorem dL_law_416 : decode cL_law 416 = .ok (.iconst 0, 1) := by decide +kernel
theorem dL_law_417 : decode cL_law 417 = .ok (.laload, 1) := by decide +kernel
theorem dL_law_418 : decode cL_law 418 = .ok (.iload 6, 2) := by decide +kernel
theorem dL_law_420 : decode cL_law 420 = .ok (.i2l, 1) := by decide +kernel
theorem dL_law_421 : decode cL_law 421 = .ok (.lcmp, 1) := by decide +kernel
theorem dL_law_422 : decode cL_law 422 = .ok (.ifCond .eq 5, 3) := by decide +kernel
theorem dL_law_425 : decode cL_law 425 = .ok (.iconst 0, 1) := by decide +kernel
theorem dL_law_426 : decode cL_law 426 = .ok (.ireturn, 1) := by decide +kernel
theorem dL_law_427 : decode cL_law 427 = .ok (.goto 1496, 3) := by decide +kernel
theorem dL_law_430 : decode cL_law 430 = .ok (.aload_n 1, 1) := by decide +kernel
theorem dL_law_431 : decode cL_law 431 = .ok (.aload_n 0, 1) := by decide +kernel
theorem dL_law_432 : decode cL_law 432 = .ok (.iload 4, 2) := by decide +kernel
theorem dL_law_434 : decode cL_law 434 = .ok (.iconst 1, 1) := by decide +kernel
theorem dL_law_435 : decode cL_law 435 = .ok (.iadd, 1) := by decide +kernel
theorem dL_law_436 : decode cL_law 436 = .ok (.iaload, 1) := by decide +kernel
theorem dL_law_437 : decode cL_law 437 = .ok (.aload_n 0, 1) := by decide +kernel
theorem dL_law_438 : decode cL_law 438 = .ok (.iload 4, 2) := by decide +kernel
theorem dL_law_440 : decode cL_law 440 = .ok (.iconst 2, 1) := by decide +kernel
theorem dL_law_441 : decode cL_law 441 = .ok (.iadd, 1) := by decide +kernel
theorem dL_law_442 : decode cL_law 442 = .ok (.iaload, 1) := by decide +kernel
theorem dL_law_443 : decode cL_law 443 = .ok (.aload_n 3, 1) := by decide +kernel
theorem dL_law_444 : decode cL_law 444 = .ok (.invokestatic 126, 3) := by decide +kernel
theorem dL_law_447 : decode cL_law 447 = .ok (.istore 5, 2) := by decide +kernel
theorem dL_law_449 : decode cL_law 449 = .ok (.aload_n 2, 1) := by decide +kernel
theorem dL_law_450 : decode cL_law 450 = .ok (.aload_n 0, 1) := by decide +kernel
theorem dL_law_451 : decode cL_law 451 = .ok (.iload 4, 2) := by decide +kernel
theorem dL_law_453 : decode cL_law 453 = .ok (.iconst 1, 1) := by decide +kernel
theorem dL_law_454 : decode cL_law 454 = .ok (.iadd, 1) := by decide +kernel
theorem dL_law_455 : decode cL_law 455 = .ok (.iaload, 1) := by decide +kernel
theorem dL_law_456 : decode cL_law 456 = .ok (.aload_n 0, 1) := by decide +kernel
theorem dL_law_457 : decode cL_law 457 = .ok (.iload 4, 2) := by decide +kernel
theorem dL_law_459 : decode cL_law 459 = .ok (.iconst 2, 1) := by decide +kernel
theorem dL_law_460 : decode cL_law 460 = .ok (.iadd, 1) := by decide +kernel
theorem dL_law_461 : decode cL_law 461 = .ok (.iaload, 1) := by decide +kernel
theorem dL_law_462 : decode cL_law 462 = .ok (.invokevirtual 128, 3) := by decide +kernel
theorem dL_law_465 : decode cL_law 465 = .ok (.istore 6, 2) := by decide +kernel
theorem dL_law_467 : decode cL_law 467 = .ok (.aload_n 2, 1) := by decide +kernel
theorem dL_law_468 : decode cL_law 468 = .ok (.invokevirtual 114, 3) := by decide +kernel
theorem dL_law_471 : decode cL_law 471 = .ok (.iload 5, 2) := by decide +kernel
theorem dL_law_473 : decode cL_law 473 = .ok (.if_icmp .eq 5, 3) := by decide +kernel
theorem dL_law_476 : decode cL_law 476 = .ok (.iconst 0, 1) := by decide +kernel
theorem dL_law_477 : decode cL_law 477 = .ok (.ireturn, 1) := by decide +kernel
theorem dL_law_478 : decode cL_law 478 = .ok (.iload 5, 2) := by decide +kernel
theorem dL_law_480 : decode cL_law 480 = .ok (.ifCond .ne 15, 3) := by decide +kernel
theorem dL_law_483 : decode cL_law 483 = .ok (.aload_n 3, 1) := by decide +kernel
theorem dL_law_484 : decode cL_law 484 = .ok (.iconst 0, 1) := by decide +kernel
theorem dL_law_485 : decode cL_law 485 = .ok (.laload, 1) := by decide +kernel
theorem dL_law_486 : decode cL_law 486 = .ok (.iload 6, 2) := by decide +kernel
theorem dL_law_488 : decode cL_law 488 = .ok (.i2l, 1) := by decide +kernel
theorem dL_law_489 : decode cL_law 489 = .ok (.lcmp, 1) := by decide +kernel
theorem dL_law_490 : decode cL_law 490 = .ok (.ifCond .eq 5, 3) := by decide +kernel
theorem dL_law_493 : decode cL_law 493 = .ok (.iconst 0, 1) := by decide +kernel
theorem dL_law_494 : decode cL_law 494 = .ok (.ireturn, 1) := by decide +kernel
theorem dL_law_495 : decode cL_law 495 = .ok (.goto 1428, 3) := by decide +kernel
theorem dL_law_498 : decode cL_law 498 = .ok (.aload_n 1, 1) := by decide +kernel
theorem dL_law_499 : decode cL_law 499 = .ok (.aload_n 0, 1) := by decide +kernel
theorem dL_law_500 : decode cL_law 500 = .ok (.iload 4, 2) := by decide +kernel
theorem dL_law_502 : decode cL_law 502 = .ok (.iconst 1, 1) := by decide +kernel
theorem dL_law_503 : decode cL_law 503 = .ok (.iadd, 1) := by decide +kernel
theorem dL_law_504 : decode cL_law 504 = .ok (.iaload, 1) := by decide +kernel
theorem dL_law_505 : decode cL_law 505 = .ok (.aload_n 0, 1) := by decide +kernel
theorem dL_law_506 : decode cL_law 506 = .ok (.iload 4, 2) := by decide +kernel
theorem dL_law_508 : decode cL_law 508 = .ok (.iconst 2, 1) := by decide +kernel
theorem dL_law_509 : decode cL_law 509 = .ok (.iadd, 1) := by decide +kernel
theorem dL_law_510 : decode cL_law 510 = .ok (.iaload, 1) := by decide +kernel
theorem dL_law_511 : decode cL_law 511 = .ok (.aload_n 3, 1) := by decide +kernel
theorem dL_law_512 : decode cL_law 512 = .ok (.invokestatic 129, 3) := by decide +kernel
theorem dL_law_515 : decode cL_law 515 = .ok (.istore 5, 2) := by decide +kernel
theorem dL_law_517 : decode cL_law 517 = .ok (.aload_n 2, 1) := by decide +kernel
theorem dL_law_518 : decode cL_law 518 = .ok (.aload_n 0, 1) := by decide +kernel
theorem dL_law_519 : decode cL_law 519 = .ok (.iload 4, 2) := by decide +kernel
theorem dL_law_521 : decode cL_law 521 = .ok (.iconst 1, 1) := by decide +kernel
theorem dL_law_522 : decode cL_law 522 = .ok (.iadd, 1) := by decide +kernel
theorem dL_law_523 : decode cL_law 523 = .ok (.iaload, 1) := by decide +kernel
theorem dL_law_524 : decode cL_law 524 = .ok (.aload_n 0, 1) := by decide +kernel
theorem dL_law_525 : decode cL_law 525 = .ok (.iload 4, 2) := by decide +kernel
theorem dL_law_527 : decode cL_law 527 = .ok (.iconst 2, 1) := by decide +kernel
theorem dL_law_528 : decode cL_law 528 = .ok (.iadd, 1) := by decide +kernel
theorem dL_law_529 : decode cL_law 529 = .ok (.iaload, 1) := by decide +kernel
theorem dL_law_530 : decode cL_law 530 = .ok (.invokevirtual 131, 3) := by decide +kernel
theorem dL_law_533 : decode cL_law 533 = .ok (.istore 6, 2) := by decide +kernel
theorem dL_law_535 : decode cL_law 535 = .ok (.aload_n 2, 1) := by decide +kernel
theorem dL_law_536 : decode cL_law 536 = .ok (.invokevirtual 114, 3) := by decide +kernel
theorem dL_law_539 : decode cL_law 539 = .ok (.iload 5, 2) := by decide +kernel
theorem dL_law_541 : decode cL_law 541 = .ok (.if_icmp .eq 5, 3) := by decide +kernel
theorem dL_law_544 : decode cL_law 544 = .ok (.iconst 0, 1) := by decide +kernel
theorem dL_law_545 : decode cL_law 545 = .ok (.ireturn, 1) := by decide +kernel
theorem dL_law_546 : decode cL_law 546 = .ok (.iload 5, 2) := by decide +kernel
theorem dL_law_548 : decode cL_law 548 = .ok (.ifCond .ne 15, 3) := by decide +kernel
theorem dL_law_551 : decode cL_law 551 = .ok (.aload_n 3, 1) := by decide +kernel
theorem dL_law_552 : decode cL_law 552 = .ok (.iconst 0, 1) := by decide +kernel
theorem dL_law_553 : decode cL_law 553 = .ok (.laload, 1) := by decide +kernel
theorem dL_law_554 : decode cL_law 554 = .ok (.iload 6, 2) := by decide +kernel
theorem dL_law_556 : decode cL_law 556 = .ok (.i2l, 1) := by decide +kernel
theorem dL_law_557 : decode cL_law 557 = .ok (.lcmp, 1) := by decide +kernel
theorem dL_law_558 : decode cL_law 558 = .ok (.ifCond .eq 5, 3) := by decide +kernel
theorem dL_law_561 : decode cL_law 561 = .ok (.iconst 0, 1) := by decide +kernel
theorem dL_law_562 : decode cL_law 562 = .ok (.ireturn, 1) := by decide +kernel
theorem dL_law_563 : decode cL_law 563 = .ok (.goto 1360, 3) := by decide +kernel
theorem dL_law_566 : decode cL_law 566 = .ok (.aload_n 1, 1) := by decide +kernel
theorem dL_law_567 : decode cL_law 567 = .ok (.aload_n 0, 1) := by decide +kernel
theorem dL_law_568 : decode cL_law 568 = .ok (.iload 4, 2) := by decide +kernel
theorem dL_law_570 : decode cL_law 570 = .ok (.iconst 1, 1) := by decide +kernel
theorem dL_law_571 : decode cL_law 571 = .ok (.iadd, 1) := by decide +kernel
theorem dL_law_572 : decode cL_law 572 = .ok (.iaload, 1) := by decide +kernel
theorem dL_law_573 : decode cL_law 573 = .ok (.aload_n 0, 1) := by decide +kernel
theorem dL_law_574 : decode cL_law 574 = .ok (.iload 4, 2) := by decide +kernel
theorem dL_law_576 : decode cL_law 576 = .ok (.iconst 2, 1) := by decide +kernel
theorem dL_law_577 : decode cL_law 577 = .ok (.iadd, 1) := by decide +kernel
theorem dL_law_578 : decode cL_law 578 = .ok (.iaload, 1) := by decide +kernel
theorem dL_law_579 : decode cL_law 579 = .ok (.aload_n 0, 1) := by decide +kernel
theorem dL_law_580 : decode cL_law 580 = .ok (.iload 4, 2) := by decide +kernel
theorem dL_law_582 : decode cL_law 582 = .ok (.iconst 3, 1) := by decide +kernel
theorem dL_law_583 : decode cL_law 583 = .ok (.iadd, 1) := by decide +kernel
theorem dL_law_584 : decode cL_law 584 = .ok (.iaload, 1) := by decide +kernel
theorem dL_law_585 : decode cL_law 585 = .ok (.aload_n 0, 1) := by decide +kernel
theorem dL_law_586 : decode cL_law 586 = .ok (.iload 4, 2) := by decide +kernel
theorem dL_law_588 : decode cL_law 588 = .ok (.iconst 4, 1) := by decide +kernel
theorem dL_law_589 : decode cL_law 589 = .ok (.iadd, 1) := by decide +kernel
theorem dL_law_590 : decode cL_law 590 = .ok (.iaload, 1) := by decide +kernel
theorem dL_law_591 : decode cL_law 591 = .ok (.invokestatic 132, 3) := by decide +kernel
theorem dL_law_594 : decode cL_law 594 = .ok (.istore 5, 2) := by decide +kernel
theorem dL_law_596 : decode cL_law 596 = .ok (.aload_n 2, 1) := by decide +kernel
theorem dL_law_597 : decode cL_law 597 = .ok (.aload_n 0, 1) := by decide +kernel
theorem dL_law_598 : decode cL_law 598 = .ok (.iload 4, 2) := by decide +kernel
theorem dL_law_600 : decode cL_law 600 = .ok (.iconst 1, 1) := by decide +kernel
theorem dL_law_601 : decode cL_law 601 = .ok (.iadd, 1) := by decide +kernel
theorem dL_law_602 : decode cL_law 602 = .ok (.iaload, 1) := by decide +kernel
theorem dL_law_603 : decode cL_law 603 = .ok (.aload_n 0, 1) := by decide +kernel
theorem dL_law_604 : decode cL_law 604 = .ok (.iload 4, 2) := by decide +kernel
theorem dL_law_606 : decode cL_law 606 = .ok (.iconst 2, 1) := by decide +kernel
theorem dL_law_607 : decode cL_law 607 = .ok (.iadd, 1) := by decide +kernel
theorem dL_law_608 : decode cL_law 608 = .ok (.iaload, 1) := by decide +kernel
theorem dL_law_609 : decode cL_law 609 = .ok (.aload_n 0, 1) := by decide +kernel
theorem dL_law_610 : decode cL_law 610 = .ok (.iload 4, 2) := by decide +kernel
theorem dL_law_612 : decode cL_law 612 = .ok (.iconst 3, 1) := by decide +kernel
theorem dL_law_613 : decode cL_law 613 = .ok (.iadd, 1) := by decide +kernel
theorem dL_law_614 : decode cL_law 614 = .ok (.iaload, 1) := by decide +kernel
theorem dL_law_615 : decode cL_law 615 = .ok (.aload_n 0, 1) := by decide +kernel
theorem dL_law_616 : decode cL_law 616 = .ok (.iload 4, 2) := by decide +kernel
theorem dL_law_618 : decode cL_law 618 = .ok (.iconst 4, 1) := by decide +kernel
theorem dL_law_619 : decode cL_law 619 = .ok (.iadd, 1) := by decide +kernel
theorem dL_law_620 : decode cL_law 620 = .ok (.iaload, 1) := by decide +kernel
theorem dL_law_621 : decode cL_law 621 = .ok (.invokevirtual 135, 3) := by decide +kernel
theorem dL_law_624 : decode cL_law 624 = .ok (.aload_n 2, 1) := by decide +kernel
theorem dL_law_625 : decode cL_law 625 = .ok (.invokevirtual 114, 3) := by decide +kernel
theorem dL_law_628 : decode cL_law 628 = .ok (.iload 5, 2) := by decide +kernel
theorem dL_law_630 : decode cL_law 630 = .ok (.if_icmp .eq 5, 3) := by decide +kernel
theorem dL_law_633 : decode cL_law 633 = .ok (.iconst 0, 1) := by decide +kernel
theorem dL_law_634 : decode cL_law 634 = .ok (.ireturn, 1) := by decide +kernel
theorem dL_law_635 : decode cL_law 635 = .ok (.goto 1288, 3) := by decide +kernel
theorem dL_law_638 : decode cL_law 638 = .ok (.aload_n 1, 1) := by decide +kernel
theorem dL_law_639 : decode cL_law 639 = .ok (.aload_n 0, 1) := by decide +kernel
theorem dL_law_640 : decode cL_law 640 = .ok (.iload 4, 2) := by decide +kernel
theorem dL_law_642 : decode cL_law 642 = .ok (.iconst 1, 1) := by decide +kernel
theorem dL_law_643 : decode cL_law 643 = .ok (.iadd, 1) := by decide +kernel
theorem dL_law_644 : decode cL_law 644 = .ok (.iaload, 1) := by decide +kernel
theorem dL_law_645 : decode cL_law 645 = .ok (.aload_n 0, 1) := by decide +kernel
theorem dL_law_646 : decode cL_law 646 = .ok (.iload 4, 2) := by decide +kernel
theorem dL_law_648 : decode cL_law 648 = .ok (.iconst 2, 1) := by decide +kernel
theorem dL_law_649 : decode cL_law 649 = .ok (.iadd, 1) := by decide +kernel
theorem dL_law_650 : decode cL_law 650 = .ok (.iaload, 1) := by decide +kernel
theorem dL_law_651 : decode cL_law 651 = .ok (.aload_n 0, 1) := by decide +kernel
theorem dL_law_652 : decode cL_law 652 = .ok (.iload 4, 2) := by decide +kernel
theorem dL_law_654 : decode cL_law 654 = .ok (.iconst 3, 1) := by decide +kernel
theorem dL_law_655 : decode cL_law 655 = .ok (.iadd, 1) := by decide +kernel
theorem dL_law_656 : decode cL_law 656 = .ok (.iaload, 1) := by decide +kernel
theorem dL_law_657 : decode cL_law 657 = .ok (.invokestatic 136, 3) := by decide +kernel
theorem dL_law_660 : decode cL_law 660 = .ok (.istore 5, 2) := by decide +kernel
theorem dL_law_662 : decode cL_law 662 = .ok (.aload_n 2, 1) := by decide +kernel
theorem dL_law_663 : decode cL_law 663 = .ok (.aload_n 0, 1) := by decide +kernel
theorem dL_law_664 : decode cL_law 664 = .ok (.iload 4, 2) := by decide +kernel
theorem dL_law_666 : decode cL_law 666 = .ok (.iconst 1, 1) := by decide +kernel
theorem dL_law_667 : decode cL_law 667 = .ok (.iadd, 1) := by decide +kernel
theorem dL_law_668 : decode cL_law 668 = .ok (.iaload, 1) := by decide +kernel
theorem dL_law_669 : decode cL_law 669 = .ok (.aload_n 0, 1) := by decide +kernel
theorem dL_law_670 : decode cL_law 670 = .ok (.iload 4, 2) := by decide +kernel
theorem dL_law_672 : decode cL_law 672 = .ok (.iconst 2, 1) := by decide +kernel
theorem dL_law_673 : decode cL_law 673 = .ok (.iadd, 1) := by decide +kernel
theorem dL_law_674 : decode cL_law 674 = .ok (.iaload, 1) := by decide +kernel
theorem dL_law_675 : decode cL_law 675 = .ok (.aload_n 0, 1) := by decide +kernel
theorem dL_law_676 : decode cL_law 676 = .ok (.iload 4, 2) := by decide +kernel
theorem dL_law_678 : decode cL_law 678 = .ok (.iconst 3, 1) := by decide +kernel
theorem dL_law_679 : decode cL_law 679 = .ok (.iadd, 1) := by decide +kernel
theorem dL_law_680 : decode cL_law 680 = .ok (.iaload, 1) := by decide +kernel
theorem dL_law_681 : decode cL_law 681 = .ok (.invokevirtual 139, 3) := by decide +kernel
theorem dL_law_684 : decode cL_law 684 = .ok (.aload_n 2, 1) := by decide +kernel
theorem dL_law_685 : decode cL_law 685 = .ok (.invokevirtual 114, 3) := by decide +kernel
theorem dL_law_688 : decode cL_law 688 = .ok (.iload 5, 2) := by decide +kernel
theorem dL_law_690 : decode cL_law 690 = .ok (.if_icmp .eq 5, 3) := by decide +kernel
theorem dL_law_693 : decode cL_law 693 = .ok (.iconst 0, 1) := by decide +kernel
theorem dL_law_694 : decode cL_law 694 = .ok (.ireturn, 1) := by decide +kernel
theorem dL_law_695 : decode cL_law 695 = .ok (.goto 1228, 3) := by decide +kernel
theorem dL_law_698 : decode cL_law 698 = .ok (.aload_n 1, 1) := by decide +kernel
theorem dL_law_699 : decode cL_law 699 = .ok (.aload_n 0, 1) := by decide +kernel
theorem dL_law_700 : decode cL_law 700 = .ok (.iload 4, 2) := by decide +kernel
theorem dL_law_702 : decode cL_law 702 = .ok (.iconst 1, 1) := by decide +kernel
theorem dL_law_703 : decode cL_law 703 = .ok (.iadd, 1) := by decide +kernel
theorem dL_law_704 : decode cL_law 704 = .ok (.iaload, 1) := by decide +kernel
theorem dL_law_705 : decode cL_law 705 = .ok (.aload_n 0, 1) := by decide +kernel
theorem dL_law_706 : decode cL_law 706 = .ok (.iload 4, 2) := by decide +kernel
theorem dL_law_708 : decode cL_law 708 = .ok (.iconst 2, 1) := by decide +kernel
theorem dL_law_709 : decode cL_law 709 = .ok (.iadd, 1) := by decide +kernel
theorem dL_law_710 : decode cL_law 710 = .ok (.iaload, 1) := by decide +kernel
theorem dL_law_711 : decode cL_law 711 = .ok (.aload_n 3, 1) := by decide +kernel
theorem dL_law_712 : decode cL_law 712 = .ok (.invokestatic 140, 3) := by decide +kernel
theorem dL_law_715 : decode cL_law 715 = .ok (.istore 5, 2) := by decide +kernel
theorem dL_law_717 : decode cL_law 717 = .ok (.aload_n 2, 1) := by decide +kernel
theorem dL_law_718 : decode cL_law 718 = .ok (.aload_n 0, 1) := by decide +kernel
theorem dL_law_719 : decode cL_law 719 = .ok (.iload 4, 2) := by decide +kernel
theorem dL_law_721 : decode cL_law 721 = .ok (.iconst 1, 1) := by decide +kernel
theorem dL_law_722 : decode cL_law 722 = .ok (.iadd, 1) := by decide +kernel
theorem dL_law_723 : decode cL_law 723 = .ok (.iaload, 1) := by decide +kernel
theorem dL_law_724 : decode cL_law 724 = .ok (.aload_n 0, 1) := by decide +kernel
theorem dL_law_725 : decode cL_law 725 = .ok (.iload 4, 2) := by decide +kernel
theorem dL_law_727 : decode cL_law 727 = .ok (.iconst 2, 1) := by decide +kernel
theorem dL_law_728 : decode cL_law 728 = .ok (.iadd, 1) := by decide +kernel
theorem dL_law_729 : decode cL_law 729 = .ok (.iaload, 1) := by decide +kernel
theorem dL_law_730 : decode cL_law 730 = .ok (.invokevirtual 142, 3) := by decide +kernel
theorem dL_law_733 : decode cL_law 733 = .ok (.istore 6, 2) := by decide +kernel
theorem dL_law_735 : decode cL_law 735 = .ok (.aload_n 2, 1) := by decide +kernel
theorem dL_law_736 : decode cL_law 736 = .ok (.invokevirtual 114, 3) := by decide +kernel
theorem dL_law_739 : decode cL_law 739 = .ok (.iload 5, 2) := by decide +kernel
theorem dL_law_741 : decode cL_law 741 = .ok (.if_icmp .eq 5, 3) := by decide +kernel
theorem dL_law_744 : decode cL_law 744 = .ok (.iconst 0, 1) := by decide +kernel
theorem dL_law_745 : decode cL_law 745 = .ok (.ireturn, 1) := by decide +kernel
theorem dL_law_746 : decode cL_law 746 = .ok (.iload 5, 2) := by decide +kernel
theorem dL_law_748 : decode cL_law 748 = .ok (.ifCond .ne 15, 3) := by decide +kernel
theorem dL_law_751 : decode cL_law 751 = .ok (.aload_n 3, 1) := by decide +kernel
theorem dL_law_752 : decode cL_law 752 = .ok (.iconst 0, 1) := by decide +kernel
theorem dL_law_753 : decode cL_law 753 = .ok (.laload, 1) := by decide +kernel
theorem dL_law_754 : decode cL_law 754 = .ok (.iload 6, 2) := by decide +kernel
theorem dL_law_756 : decode cL_law 756 = .ok (.i2l, 1) := by decide +kernel
theorem dL_law_757 : decode cL_law 757 = .ok (.lcmp, 1) := by decide +kernel
theorem dL_law_758 : decode cL_law 758 = .ok (.ifCond .eq 5, 3) := by decide +kernel
theorem dL_law_761 : decode cL_law 761 = .ok (.iconst 0, 1) := by decide +kernel
theorem dL_law_762 : decode cL_law 762 = .ok (.ireturn, 1) := by decide +kernel
theorem dL_law_763 : decode cL_law 763 = .ok (.goto 1160, 3) := by decide +kernel
theorem dL_law_766 : decode cL_law 766 = .ok (.aload_n 1, 1) := by decide +kernel
theorem dL_law_767 : decode cL_law 767 = .ok (.aload_n 0, 1) := by decide +kernel
theorem dL_law_768 : decode cL_law 768 = .ok (.iload 4, 2) := by decide +kernel
theorem dL_law_770 : decode cL_law 770 = .ok (.iconst 1, 1) := by decide +kernel
theorem dL_law_771 : decode cL_law 771 = .ok (.iadd, 1) := by decide +kernel
theorem dL_law_772 : decode cL_law 772 = .ok (.iaload, 1) := by decide +kernel
theorem dL_law_773 : decode cL_law 773 = .ok (.aload_n 0, 1) := by decide +kernel
theorem dL_law_774 : decode cL_law 774 = .ok (.iload 4, 2) := by decide +kernel
theorem dL_law_776 : decode cL_law 776 = .ok (.iconst 2, 1) := by decide +kernel
theorem dL_law_777 : decode cL_law 777 = .ok (.iadd, 1) := by decide +kernel
theorem dL_law_778 : decode cL_law 778 = .ok (.iaload, 1) := by decide +kernel
theorem dL_law_779 : decode cL_law 779 = .ok (.aload_n 0, 1) := by decide +kernel
theorem dL_law_780 : decode cL_law 780 = .ok (.iload 4, 2) := by decide +kernel
theorem dL_law_782 : decode cL_law 782 = .ok (.iconst 3, 1) := by decide +kernel
theorem dL_law_783 : decode cL_law 783 = .ok (.iadd, 1) := by decide +kernel
theorem dL_law_784 : decode cL_law 784 = .ok (.iaload, 1) := by decide +kernel
theorem dL_law_785 : decode cL_law 785 = .ok (.aload_n 0, 1) := by decide +kernel
theorem dL_law_786 : decode cL_law 786 = .ok (.iload 4, 2) := by decide +kernel
theorem dL_law_788 : decode cL_law 788 = .ok (.iconst 4, 1) := by decide +kernel
theorem dL_law_789 : decode cL_law 789 = .ok (.iadd, 1) := by decide +kernel
theorem dL_law_790 : decode cL_law 790 = .ok (.iaload, 1) := by decide +kernel
theorem dL_law_791 : decode cL_law 791 = .ok (.aload_n 3, 1) := by decide +kernel
theorem dL_law_792 : decode cL_law 792 = .ok (.invokestatic 143, 3) := by decide +kernel
theorem dL_law_795 : decode cL_law 795 = .ok (.istore 5, 2) := by decide +kernel
theorem dL_law_797 : decode cL_law 797 = .ok (.aload_n 2, 1) := by decide +kernel
theorem dL_law_798 : decode cL_law 798 = .ok (.aload_n 0, 1) := by decide +kernel
theorem dL_law_799 : decode cL_law 799 = .ok (.iload 4, 2) := by decide +kernel
theorem dL_law_801 : decode cL_law 801 = .ok (.iconst 1, 1) := by decide +kernel
theorem dL_law_802 : decode cL_law 802 = .ok (.iadd, 1) := by decide +kernel
theorem dL_law_803 : decode cL_law 803 = .ok (.iaload, 1) := by decide +kernel
theorem dL_law_804 : decode cL_law 804 = .ok (.aload_n 0, 1) := by decide +kernel
theorem dL_law_805 : decode cL_law 805 = .ok (.iload 4, 2) := by decide +kernel
theorem dL_law_807 : decode cL_law 807 = .ok (.iconst 2, 1) := by decide +kernel
theorem dL_law_808 : decode cL_law 808 = .ok (.iadd, 1) := by decide +kernel
theorem dL_law_809 : decode cL_law 809 = .ok (.iaload, 1) := by decide +kernel
theorem dL_law_810 : decode cL_law 810 = .ok (.aload_n 0, 1) := by decide +kernel
theorem dL_law_811 : decode cL_law 811 = .ok (.iload 4, 2) := by decide +kernel
theorem dL_law_813 : decode cL_law 813 = .ok (.iconst 3, 1) := by decide +kernel
theorem dL_law_814 : decode cL_law 814 = .ok (.iadd, 1) := by decide +kernel
theorem dL_law_815 : decode cL_law 815 = .ok (.iaload, 1) := by decide +kernel
theorem dL_law_816 : decode cL_law 816 = .ok (.aload_n 0, 1) := by decide +kernel
theorem dL_law_817 : decode cL_law 817 = .ok (.iload 4, 2) := by decide +kernel
theorem dL_law_819 : decode cL_law 819 = .ok (.iconst 4, 1) := by decide +kernel
theorem dL_law_820 : decode cL_law 820 = .ok (.iadd, 1) := by decide +kernel
theorem dL_law_821 : decode cL_law 821 = .ok (.iaload, 1) := by decide +kernel
theorem dL_law_822 : decode cL_law 822 = .ok (.invokevirtual 146, 3) := by decide +kernel
theorem dL_law_825 : decode cL_law 825 = .ok (.istore 6, 2) := by decide +kernel
theorem dL_law_827 : decode cL_law 827 = .ok (.aload_n 2, 1) := by decide +kernel
theorem dL_law_828 : decode cL_law 828 = .ok (.invokevirtual 114, 3) := by decide +kernel
theorem dL_law_831 : decode cL_law 831 = .ok (.iload 5, 2) := by decide +kernel
theorem dL_law_833 : decode cL_law 833 = .ok (.if_icmp .eq 5, 3) := by decide +kernel
theorem dL_law_836 : decode cL_law 836 = .ok (.iconst 0, 1) := by decide +kernel
theorem dL_law_837 : decode cL_law 837 = .ok (.ireturn, 1) := by decide +kernel
theorem dL_law_838 : decode cL_law 838 = .ok (.iload 5, 2) := by decide +kernel
theorem dL_law_840 : decode cL_law 840 = .ok (.ifCond .ne 15, 3) := by decide +kernel
theorem dL_law_843 : decode cL_law 843 = .ok (.aload_n 3, 1) := by decide +kernel
theorem dL_law_844 : decode cL_law 844 = .ok (.iconst 0, 1) := by decide +kernel
theorem dL_law_845 : decode cL_law 845 = .ok (.laload, 1) := by decide +kernel
theorem dL_law_846 : decode cL_law 846 = .ok (.iload 6, 2) := by decide +kernel
theorem dL_law_848 : decode cL_law 848 = .ok (.i2l, 1) := by decide +kernel
theorem dL_law_849 : decode cL_law 849 = .ok (.lcmp, 1) := by decide +kernel
theorem dL_law_850 : decode cL_law 850 = .ok (.ifCond .eq 5, 3) := by decide +kernel
theorem dL_law_853 : decode cL_law 853 = .ok (.iconst 0, 1) := by decide +kernel
theorem dL_law_854 : decode cL_law 854 = .ok (.ireturn, 1) := by decide +kernel
theorem dL_law_855 : decode cL_law 855 = .ok (.goto 1068, 3) := by decide +kernel
theorem dL_law_858 : decode cL_law 858 = .ok (.aload_n 1, 1) := by decide +kernel
theorem dL_law_859 : decode cL_law 859 = .ok (.aload_n 0, 1) := by decide +kernel
theorem dL_law_860 : decode cL_law 860 = .ok (.iload 4, 2) := by decide +kernel
theorem dL_law_862 : decode cL_law 862 = .ok (.iconst 1, 1) := by decide +kernel
theorem dL_law_863 : decode cL_law 863 = .ok (.iadd, 1) := by decide +kernel
theorem dL_law_864 : decode cL_law 864 = .ok (.iaload, 1) := by decide +kernel
theorem dL_law_865 : decode cL_law 865 = .ok (.aload_n 3, 1) := by decide +kernel
theorem dL_law_866 : decode cL_law 866 = .ok (.invokestatic 147, 3) := by decide +kernel
theorem dL_law_869 : decode cL_law 869 = .ok (.istore 5, 2) := by decide +kernel
theorem dL_law_871 : decode cL_law 871 = .ok (.aload_n 2, 1) := by decide +kernel
theorem dL_law_872 : decode cL_law 872 = .ok (.aload_n 0, 1) := by decide +kernel
theorem dL_law_873 : decode cL_law 873 = .ok (.iload 4, 2) := by decide +kernel
theorem dL_law_875 : decode cL_law 875 = .ok (.iconst 1, 1) := by decide +kernel
theorem dL_law_876 : decode cL_law 876 = .ok (.iadd, 1) := by decide +kernel
theorem dL_law_877 : decode cL_law 877 = .ok (.iaload, 1) := by decide +kernel
theorem dL_law_878 : decode cL_law 878 = .ok (.invokevirtual 150, 3) := by decide +kernel
theorem dL_law_881 : decode cL_law 881 = .ok (.istore 6, 2) := by decide +kernel
theorem dL_law_883 : decode cL_law 883 = .ok (.aload_n 2, 1) := by decide +kernel
theorem dL_law_884 : decode cL_law 884 = .ok (.invokevirtual 114, 3) := by decide +kernel
theorem dL_law_887 : decode cL_law 887 = .ok (.iload 5, 2) := by decide +kernel
theorem dL_law_889 : decode cL_law 889 = .ok (.if_icmp .eq 5, 3) := by decide +kernel
theorem dL_law_892 : decode cL_law 892 = .ok (.iconst 0, 1) := by decide +kernel
theorem dL_law_893 : decode cL_law 893 = .ok (.ireturn, 1) := by decide +kernel
theorem dL_law_894 : decode cL_law 894 = .ok (.iload 5, 2) := by decide +kernel
theorem dL_law_896 : decode cL_law 896 = .ok (.ifCond .ne 15, 3) := by decide +kernel
theorem dL_law_899 : decode cL_law 899 = .ok (.aload_n 3, 1) := by decide +kernel
theorem dL_law_900 : decode cL_law 900 = .ok (.iconst 0, 1) := by decide +kernel
theorem dL_law_901 : decode cL_law 901 = .ok (.laload, 1) := by decide +kernel
theorem dL_law_902 : decode cL_law 902 = .ok (.iload 6, 2) := by decide +kernel
theorem dL_law_904 : decode cL_law 904 = .ok (.i2l, 1) := by decide +kernel
theorem dL_law_905 : decode cL_law 905 = .ok (.lcmp, 1) := by decide +kernel
theorem dL_law_906 : decode cL_law 906 = .ok (.ifCond .eq 5, 3) := by decide +kernel
theorem dL_law_909 : decode cL_law 909 = .ok (.iconst 0, 1) := by decide +kernel
theorem dL_law_910 : decode cL_law 910 = .ok (.ireturn, 1) := by decide +kernel
theorem dL_law_911 : decode cL_law 911 = .ok (.goto 1012, 3) := by decide +kernel
theorem dL_law_914 : decode cL_law 914 = .ok (.aload_n 1, 1) := by decide +kernel
theorem dL_law_915 : decode cL_law 915 = .ok (.aload_n 0, 1) := by decide +kernel
theorem dL_law_916 : decode cL_law 916 = .ok (.iload 4, 2) := by decide +kernel
theorem dL_law_918 : decode cL_law 918 = .ok (.iconst 1, 1) := by decide +kernel
theorem dL_law_919 : decode cL_law 919 = .ok (.iadd, 1) := by decide +kernel
theorem dL_law_920 : decode cL_law 920 = .ok (.iaload, 1) := by decide +kernel
theorem dL_law_921 : decode cL_law 921 = .ok (.aload_n 0, 1) := by decide +kernel
theorem dL_law_922 : decode cL_law 922 = .ok (.iload 4, 2) := by decide +kernel
theorem dL_law_924 : decode cL_law 924 = .ok (.iconst 2, 1) := by decide +kernel
theorem dL_law_925 : decode cL_law 925 = .ok (.iadd, 1) := by decide +kernel
theorem dL_law_926 : decode cL_law 926 = .ok (.iaload, 1) := by decide +kernel
theorem dL_law_927 : decode cL_law 927 = .ok (.aload_n 3, 1) := by decide +kernel
theorem dL_law_928 : decode cL_law 928 = .ok (.invokestatic 151, 3) := by decide +kernel
theorem dL_law_931 : decode cL_law 931 = .ok (.istore 5, 2) := by decide +kernel
theorem dL_law_933 : decode cL_law 933 = .ok (.aload_n 2, 1) := by decide +kernel
theorem dL_law_934 : decode cL_law 934 = .ok (.aload_n 0, 1) := by decide +kernel
theorem dL_law_935 : decode cL_law 935 = .ok (.iload 4, 2) := by decide +kernel
theorem dL_law_937 : decode cL_law 937 = .ok (.iconst 1, 1) := by decide +kernel
theorem dL_law_938 : decode cL_law 938 = .ok (.iadd, 1) := by decide +kernel
theorem dL_law_939 : decode cL_law 939 = .ok (.iaload, 1) := by decide +kernel
theorem dL_law_940 : decode cL_law 940 = .ok (.aload_n 0, 1) := by decide +kernel
theorem dL_law_941 : decode cL_law 941 = .ok (.iload 4, 2) := by decide +kernel
theorem dL_law_943 : decode cL_law 943 = .ok (.iconst 2, 1) := by decide +kernel
theorem dL_law_944 : decode cL_law 944 = .ok (.iadd, 1) := by decide +kernel
theorem dL_law_945 : decode cL_law 945 = .ok (.iaload, 1) := by decide +kernel
theorem dL_law_946 : decode cL_law 946 = .ok (.invokevirtual 153, 3) := by decide +kernel
theorem dL_law_949 : decode cL_law 949 = .ok (.istore 6, 2) := by decide +kernel
theorem dL_law_951 : decode cL_law 951 = .ok (.aload_n 2, 1) := by decide +kernel
theorem dL_law_952 : decode cL_law 952 = .ok (.invokevirtual 114, 3) := by decide +kernel
theorem dL_law_955 : decode cL_law 955 = .ok (.iload 5, 2) := by decide +kernel
theorem dL_law_957 : decode cL_law 957 = .ok (.if_icmp .eq 5, 3) := by decide +kernel
theorem dL_law_960 : decode cL_law 960 = .ok (.iconst 0, 1) := by decide +kernel
theorem dL_law_961 : decode cL_law 961 = .ok (.ireturn, 1) := by decide +kernel
theorem dL_law_962 : decode cL_law 962 = .ok (.iload 5, 2) := by decide +kernel
theorem dL_law_964 : decode cL_law 964 = .ok (.ifCond .ne 15, 3) := by decide +kernel
theorem dL_law_967 : decode cL_law 967 = .ok (.aload_n 3, 1) := by decide +kernel
theorem dL_law_968 : decode cL_law 968 = .ok (.iconst 0, 1) := by decide +kernel
theorem dL_law_969 : decode cL_law 969 = .ok (.laload, 1) := by decide +kernel
theorem dL_law_970 : decode cL_law 970 = .ok (.iload 6, 2) := by decide +kernel
theorem dL_law_972 : decode cL_law 972 = .ok (.i2l, 1) := by decide +kernel
theorem dL_law_973 : decode cL_law 973 = .ok (.lcmp, 1) := by decide +kernel
theorem dL_law_974 : decode cL_law 974 = .ok (.ifCond .eq 5, 3) := by decide +kernel
theorem dL_law_977 : decode cL_law 977 = .ok (.iconst 0, 1) := by decide +kernel
theorem dL_law_978 : decode cL_law 978 = .ok (.ireturn, 1) := by decide +kernel
theorem dL_law_979 : decode cL_law 979 = .ok (.goto 944, 3) := by decide +kernel
theorem dL_law_982 : decode cL_law 982 = .ok (.aload_n 1, 1) := by decide +kernel
theorem dL_law_983 : decode cL_law 983 = .ok (.aload_n 0, 1) := by decide +kernel
theorem dL_law_984 : decode cL_law 984 = .ok (.iload 4, 2) := by decide +kernel
theorem dL_law_986 : decode cL_law 986 = .ok (.iconst 1, 1) := by decide +kernel
theorem dL_law_987 : decode cL_law 987 = .ok (.iadd, 1) := by decide +kernel
theorem dL_law_988 : decode cL_law 988 = .ok (.iaload, 1) := by decide +kernel
theorem dL_law_989 : decode cL_law 989 = .ok (.aload_n 3, 1) := by decide +kernel
theorem dL_law_990 : decode cL_law 990 = .ok (.invokestatic 154, 3) := by decide +kernel
theorem dL_law_993 : decode cL_law 993 = .ok (.istore 5, 2) := by decide +kernel
theorem dL_law_995 : decode cL_law 995 = .ok (.aload_n 2, 1) := by decide +kernel
theorem dL_law_996 : decode cL_law 996 = .ok (.aload_n 0, 1) := by decide +kernel
theorem dL_law_997 : decode cL_law 997 = .ok (.iload 4, 2) := by decide +kernel
theorem dL_law_999 : decode cL_law 999 = .ok (.iconst 1, 1) := by decide +kernel
theorem dL_law_1000 : decode cL_law 1000 = .ok (.iadd, 1) := by decide +kernel
theorem dL_law_1001 : decode cL_law 1001 = .ok (.iaload, 1) := by decide +kernel
theorem dL_law_1002 : decode cL_law 1002 = .ok (.invokevirtual 156, 3) := by decide +kernel
theorem dL_law_1005 : decode cL_law 1005 = .ok (.istore 6, 2) := by decide +kernel
theorem dL_law_1007 : decode cL_law 1007 = .ok (.aload_n 2, 1) := by decide +kernel
theorem dL_law_1008 : decode cL_law 1008 = .ok (.invokevirtual 114, 3) := by decide +kernel
theorem dL_law_1011 : decode cL_law 1011 = .ok (.iload 5, 2) := by decide +kernel
theorem dL_law_1013 : decode cL_law 1013 = .ok (.if_icmp .eq 5, 3) := by decide +kernel
theorem dL_law_1016 : decode cL_law 1016 = .ok (.iconst 0, 1) := by decide +kernel
theorem dL_law_1017 : decode cL_law 1017 = .ok (.ireturn, 1) := by decide +kernel
theorem dL_law_1018 : decode cL_law 1018 = .ok (.iload 5, 2) := by decide +kernel
theorem dL_law_1020 : decode cL_law 1020 = .ok (.ifCond .ne 15, 3) := by decide +kernel
theorem dL_law_1023 : decode cL_law 1023 = .ok (.aload_n 3, 1) := by decide +kernel
theorem dL_law_1024 : decode cL_law 1024 = .ok (.iconst 0, 1) := by decide +kernel
theorem dL_law_1025 : decode cL_law 1025 = .ok (.laload, 1) := by decide +kernel
theorem dL_law_1026 : decode cL_law 1026 = .ok (.iload 6, 2) := by decide +kernel
theorem dL_law_1028 : decode cL_law 1028 = .ok (.i2l, 1) := by decide +kernel
theorem dL_law_1029 : decode cL_law 1029 = .ok (.lcmp, 1) := by decide +kernel
theorem dL_law_1030 : decode cL_law 1030 = .ok (.ifCond .eq 5, 3) := by decide +kernel
theorem dL_law_1033 : decode cL_law 1033 = .ok (.iconst 0, 1) := by decide +kernel
theorem dL_law_1034 : decode cL_law 1034 = .ok (.ireturn, 1) := by decide +kernel
theorem dL_law_1035 : decode cL_law 1035 = .ok (.goto 888, 3) := by decide +kernel
theorem dL_law_1038 : decode cL_law 1038 = .ok (.aload_n 1, 1) := by decide +kernel
theorem dL_law_1039 : decode cL_law 1039 = .ok (.invokevirtual 157, 3) := by decide +kernel
theorem dL_law_1042 : decode cL_law 1042 = .ok (.aload_n 2, 1) := by decide +kernel
theorem dL_law_1043 : decode cL_law 1043 = .ok (.invokevirtual 160, 3) := by decide +kernel
theorem dL_law_1046 : decode cL_law 1046 = .ok (.if_icmp .eq 877, 3) := by decide +kernel
theorem dL_law_1049 : decode cL_law 1049 = .ok (.iconst 0, 1) := by decide +kernel
theorem dL_law_1050 : decode cL_law 1050 = .ok (.ireturn, 1) := by decide +kernel
theorem dL_law_1051 : decode cL_law 1051 = .ok (.aload_n 1, 1) := by decide +kernel
theorem dL_law_1052 : decode cL_law 1052 = .ok (.aload_n 0, 1) := by decide +kernel
theorem dL_law_1053 : decode cL_law 1053 = .ok (.iload 4, 2) := by decide +kernel
theorem dL_law_1055 : decode cL_law 1055 = .ok (.iconst 1, 1) := by decide +kernel
theorem dL_law_1056 : decode cL_law 1056 = .ok (.iadd, 1) := by decide +kernel
theorem dL_law_1057 : decode cL_law 1057 = .ok (.iaload, 1) := by decide +kernel
theorem dL_law_1058 : decode cL_law 1058 = .ok (.aload_n 3, 1) := by decide +kernel
theorem dL_law_1059 : decode cL_law 1059 = .ok (.invokestatic 161, 3) := by decide +kernel
theorem dL_law_1062 : decode cL_law 1062 = .ok (.istore 5, 2) := by decide +kernel
theorem dL_law_1064 : decode cL_law 1064 = .ok (.aload_n 2, 1) := by decide +kernel
theorem dL_law_1065 : decode cL_law 1065 = .ok (.aload_n 0, 1) := by decide +kernel
theorem dL_law_1066 : decode cL_law 1066 = .ok (.iload 4, 2) := by decide +kernel
theorem dL_law_1068 : decode cL_law 1068 = .ok (.iconst 1, 1) := by decide +kernel
theorem dL_law_1069 : decode cL_law 1069 = .ok (.iadd, 1) := by decide +kernel
theorem dL_law_1070 : decode cL_law 1070 = .ok (.iaload, 1) := by decide +kernel
theorem dL_law_1071 : decode cL_law 1071 = .ok (.invokevirtual 163, 3) := by decide +kernel
theorem dL_law_1074 : decode cL_law 1074 = .ok (.istore 6, 2) := by decide +kernel
theorem dL_law_1076 : decode cL_law 1076 = .ok (.aload_n 2, 1) := by decide +kernel
theorem dL_law_1077 : decode cL_law 1077 = .ok (.invokevirtual 114, 3) := by decide +kernel
theorem dL_law_1080 : decode cL_law 1080 = .ok (.iload 5, 2) := by decide +kernel
theorem dL_law_1082 : decode cL_law 1082 = .ok (.if_icmp .eq 5, 3) := by decide +kernel
theorem dL_law_1085 : decode cL_law 1085 = .ok (.iconst 0, 1) := by decide +kernel
theorem dL_law_1086 : decode cL_law 1086 = .ok (.ireturn, 1) := by decide +kernel
theorem dL_law_1087 : decode cL_law 1087 = .ok (.iload 5, 2) := by decide +kernel
theorem dL_law_1089 : decode cL_law 1089 = .ok (.ifCond .ne 15, 3) := by decide +kernel
theorem dL_law_1092 : decode cL_law 1092 = .ok (.aload_n 3, 1) := by decide +kernel
theorem dL_law_1093 : decode cL_law 1093 = .ok (.iconst 0, 1) := by decide +kernel
theorem dL_law_1094 : decode cL_law 1094 = .ok (.laload, 1) := by decide +kernel
theorem dL_law_1095 : decode cL_law 1095 = .ok (.iload 6, 2) := by decide +kernel
theorem dL_law_1097 : decode cL_law 1097 = .ok (.i2l, 1) := by decide +kernel
theorem dL_law_1098 : decode cL_law 1098 = .ok (.lcmp, 1) := by decide +kernel
theorem dL_law_1099 : decode cL_law 1099 = .ok (.ifCond .eq 5, 3) := by decide +kernel
theorem dL_law_1102 : decode cL_law 1102 = .ok (.iconst 0, 1) := by decide +kernel
theorem dL_law_1103 : decode cL_law 1103 = .ok (.ireturn, 1) := by decide +kernel
theorem dL_law_1104 : decode cL_law 1104 = .ok (.goto 819, 3) := by decide +kernel
theorem dL_law_1107 : decode cL_law 1107 = .ok (.aload_n 1, 1) := by decide +kernel
theorem dL_law_1108 : decode cL_law 1108 = .ok (.aload_n 0, 1) := by decide +kernel
theorem dL_law_1109 : decode cL_law 1109 = .ok (.iload 4, 2) := by decide +kernel
theorem dL_law_1111 : decode cL_law 1111 = .ok (.iconst 1, 1) := by decide +kernel
theorem dL_law_1112 : decode cL_law 1112 = .ok (.iadd, 1) := by decide +kernel
theorem dL_law_1113 : decode cL_law 1113 = .ok (.iaload, 1) := by decide +kernel
theorem dL_law_1114 : decode cL_law 1114 = .ok (.aload_n 3, 1) := by decide +kernel
theorem dL_law_1115 : decode cL_law 1115 = .ok (.invokestatic 164, 3) := by decide +kernel
theorem dL_law_1118 : decode cL_law 1118 = .ok (.istore 5, 2) := by decide +kernel
theorem dL_law_1120 : decode cL_law 1120 = .ok (.aload_n 2, 1) := by decide +kernel
theorem dL_law_1121 : decode cL_law 1121 = .ok (.aload_n 0, 1) := by decide +kernel
theorem dL_law_1122 : decode cL_law 1122 = .ok (.iload 4, 2) := by decide +kernel
theorem dL_law_1124 : decode cL_law 1124 = .ok (.iconst 1, 1) := by decide +kernel
theorem dL_law_1125 : decode cL_law 1125 = .ok (.iadd, 1) := by decide +kernel
theorem dL_law_1126 : decode cL_law 1126 = .ok (.iaload, 1) := by decide +kernel
theorem dL_law_1127 : decode cL_law 1127 = .ok (.invokevirtual 166, 3) := by decide +kernel
theorem dL_law_1130 : decode cL_law 1130 = .ok (.istore 6, 2) := by decide +kernel
theorem dL_law_1132 : decode cL_law 1132 = .ok (.aload_n 2, 1) := by decide +kernel
theorem dL_law_1133 : decode cL_law 1133 = .ok (.invokevirtual 114, 3) := by decide +kernel
theorem dL_law_1136 : decode cL_law 1136 = .ok (.iload 5, 2) := by decide +kernel
theorem dL_law_1138 : decode cL_law 1138 = .ok (.if_icmp .eq 5, 3) := by decide +kernel
theorem dL_law_1141 : decode cL_law 1141 = .ok (.iconst 0, 1) := by decide +kernel
theorem dL_law_1142 : decode cL_law 1142 = .ok (.ireturn, 1) := by decide +kernel
theorem dL_law_1143 : decode cL_law 1143 = .ok (.iload 5, 2) := by decide +kernel
theorem dL_law_1145 : decode cL_law 1145 = .ok (.ifCond .ne 15, 3) := by decide +kernel
theorem dL_law_1148 : decode cL_law 1148 = .ok (.aload_n 3, 1) := by decide +kernel
theorem dL_law_1149 : decode cL_law 1149 = .ok (.iconst 0, 1) := by decide +kernel
theorem dL_law_1150 : decode cL_law 1150 = .ok (.laload, 1) := by decide +kernel
theorem dL_law_1151 : decode cL_law 1151 = .ok (.iload 6, 2) := by decide +kernel
theorem dL_law_1153 : decode cL_law 1153 = .ok (.i2l, 1) := by decide +kernel
theorem dL_law_1154 : decode cL_law 1154 = .ok (.lcmp, 1) := by decide +kernel
theorem dL_law_1155 : decode cL_law 1155 = .ok (.ifCond .eq 5, 3) := by decide +kernel
theorem dL_law_1158 : decode cL_law 1158 = .ok (.iconst 0, 1) := by decide +kernel
theorem dL_law_1159 : decode cL_law 1159 = .ok (.ireturn, 1) := by decide +kernel
theorem dL_law_1160 : decode cL_law 1160 = .ok (.goto 763, 3) := by decide +kernel
theorem dL_law_1163 : decode cL_law 1163 = .ok (.aload_n 1, 1) := by decide +kernel
theorem dL_law_1164 : decode cL_law 1164 = .ok (.aload_n 0, 1) := by decide +kernel
theorem dL_law_1165 : decode cL_law 1165 = .ok (.iload 4, 2) := by decide +kernel
theorem dL_law_1167 : decode cL_law 1167 = .ok (.iconst 1, 1) := by decide +kernel
theorem dL_law_1168 : decode cL_law 1168 = .ok (.iadd, 1) := by decide +kernel
theorem dL_law_1169 : decode cL_law 1169 = .ok (.iaload, 1) := by decide +kernel
theorem dL_law_1170 : decode cL_law 1170 = .ok (.aload_n 3, 1) := by decide +kernel
theorem dL_law_1171 : decode cL_law 1171 = .ok (.invokestatic 167, 3) := by decide +kernel
theorem dL_law_1174 : decode cL_law 1174 = .ok (.istore 5, 2) := by decide +kernel
theorem dL_law_1176 : decode cL_law 1176 = .ok (.aload_n 2, 1) := by decide +kernel
theorem dL_law_1177 : decode cL_law 1177 = .ok (.aload_n 0, 1) := by decide +kernel
theorem dL_law_1178 : decode cL_law 1178 = .ok (.iload 4, 2) := by decide +kernel
theorem dL_law_1180 : decode cL_law 1180 = .ok (.iconst 1, 1) := by decide +kernel
theorem dL_law_1181 : decode cL_law 1181 = .ok (.iadd, 1) := by decide +kernel
theorem dL_law_1182 : decode cL_law 1182 = .ok (.iaload, 1) := by decide +kernel
theorem dL_law_1183 : decode cL_law 1183 = .ok (.invokevirtual 169, 3) := by decide +kernel
theorem dL_law_1186 : decode cL_law 1186 = .ok (.istore 6, 2) := by decide +kernel
theorem dL_law_1188 : decode cL_law 1188 = .ok (.aload_n 2, 1) := by decide +kernel
theorem dL_law_1189 : decode cL_law 1189 = .ok (.invokevirtual 114, 3) := by decide +kernel
theorem dL_law_1192 : decode cL_law 1192 = .ok (.iload 5, 2) := by decide +kernel
theorem dL_law_1194 : decode cL_law 1194 = .ok (.if_icmp .eq 5, 3) := by decide +kernel
theorem dL_law_1197 : decode cL_law 1197 = .ok (.iconst 0, 1) := by decide +kernel
theorem dL_law_1198 : decode cL_law 1198 = .ok (.ireturn, 1) := by decide +kernel
theorem dL_law_1199 : decode cL_law 1199 = .ok (.iload 5, 2) := by decide +kernel
theorem dL_law_1201 : decode cL_law 1201 = .ok (.ifCond .ne 15, 3) := by decide +kernel
theorem dL_law_1204 : decode cL_law 1204 = .ok (.aload_n 3, 1) := by decide +kernel
theorem dL_law_1205 : decode cL_law 1205 = .ok (.iconst 0, 1) := by decide +kernel
theorem dL_law_1206 : decode cL_law 1206 = .ok (.laload, 1) := by decide +kernel
theorem dL_law_1207 : decode cL_law 1207 = .ok (.iload 6, 2) := by decide +kernel
theorem dL_law_1209 : decode cL_law 1209 = .ok (.i2l, 1) := by decide +kernel
theorem dL_law_1210 : decode cL_law 1210 = .ok (.lcmp, 1) := by decide +kernel
theorem dL_law_1211 : decode cL_law 1211 = .ok (.ifCond .eq 5, 3) := by decide +kernel
theorem dL_law_1214 : decode cL_law 1214 = .ok (.iconst 0, 1) := by decide +kernel
theorem dL_law_1215 : decode cL_law 1215 = .ok (.ireturn, 1) := by decide +kernel
theorem dL_law_1216 : decode cL_law 1216 = .ok (.goto 707, 3) := by decide +kernel
theorem dL_law_1219 : decode cL_law 1219 = .ok (.aload_n 1, 1) := by decide +kernel
theorem dL_law_1220 : decode cL_law 1220 = .ok (.aload_n 0, 1) := by decide +kernel
theorem dL_law_1221 : decode cL_law 1221 = .ok (.iload 4, 2) := by decide +kernel
theorem dL_law_1223 : decode cL_law 1223 = .ok (.iconst 1, 1) := by decide +kernel
theorem dL_law_1224 : decode cL_law 1224 = .ok (.iadd, 1) := by decide +kernel
theorem dL_law_1225 : decode cL_law 1225 = .ok (.iaload, 1) := by decide +kernel
theorem dL_law_1226 : decode cL_law 1226 = .ok (.aload_n 3, 1) := by decide +kernel
theorem dL_law_1227 : decode cL_law 1227 = .ok (.invokestatic 170, 3) := by decide +kernel
theorem dL_law_1230 : decode cL_law 1230 = .ok (.istore 5, 2) := by decide +kernel
theorem dL_law_1232 : decode cL_law 1232 = .ok (.aload_n 2, 1) := by decide +kernel
theorem dL_law_1233 : decode cL_law 1233 = .ok (.aload_n 0, 1) := by decide +kernel
theorem dL_law_1234 : decode cL_law 1234 = .ok (.iload 4, 2) := by decide +kernel
theorem dL_law_1236 : decode cL_law 1236 = .ok (.iconst 1, 1) := by decide +kernel
theorem dL_law_1237 : decode cL_law 1237 = .ok (.iadd, 1) := by decide +kernel
theorem dL_law_1238 : decode cL_law 1238 = .ok (.iaload, 1) := by decide +kernel
theorem dL_law_1239 : decode cL_law 1239 = .ok (.invokevirtual 172, 3) := by decide +kernel
theorem dL_law_1242 : decode cL_law 1242 = .ok (.istore 6, 2) := by decide +kernel
theorem dL_law_1244 : decode cL_law 1244 = .ok (.aload_n 2, 1) := by decide +kernel
theorem dL_law_1245 : decode cL_law 1245 = .ok (.invokevirtual 114, 3) := by decide +kernel
theorem dL_law_1248 : decode cL_law 1248 = .ok (.iload 5, 2) := by decide +kernel
theorem dL_law_1250 : decode cL_law 1250 = .ok (.if_icmp .eq 5, 3) := by decide +kernel
theorem dL_law_1253 : decode cL_law 1253 = .ok (.iconst 0, 1) := by decide +kernel
theorem dL_law_1254 : decode cL_law 1254 = .ok (.ireturn, 1) := by decide +kernel
theorem dL_law_1255 : decode cL_law 1255 = .ok (.iload 5, 2) := by decide +kernel
theorem dL_law_1257 : decode cL_law 1257 = .ok (.ifCond .ne 15, 3) := by decide +kernel
theorem dL_law_1260 : decode cL_law 1260 = .ok (.aload_n 3, 1) := by decide +kernel
theorem dL_law_1261 : decode cL_law 1261 = .ok (.iconst 0, 1) := by decide +kernel
theorem dL_law_1262 : decode cL_law 1262 = .ok (.laload, 1) := by decide +kernel
theorem dL_law_1263 : decode cL_law 1263 = .ok (.iload 6, 2) := by decide +kernel
theorem dL_law_1265 : decode cL_law 1265 = .ok (.i2l, 1) := by decide +kernel
theorem dL_law_1266 : decode cL_law 1266 = .ok (.lcmp, 1) := by decide +kernel
theorem dL_law_1267 : decode cL_law 1267 = .ok (.ifCond .eq 5, 3) := by decide +kernel
theorem dL_law_1270 : decode cL_law 1270 = .ok (.iconst 0, 1) := by decide +kernel
theorem dL_law_1271 : decode cL_law 1271 = .ok (.ireturn, 1) := by decide +kernel
theorem dL_law_1272 : decode cL_law 1272 = .ok (.goto 651, 3) := by decide +kernel
theorem dL_law_1275 : decode cL_law 1275 = .ok (.aload_n 1, 1) := by decide +kernel
theorem dL_law_1276 : decode cL_law 1276 = .ok (.aload_n 0, 1) := by decide +kernel
theorem dL_law_1277 : decode cL_law 1277 = .ok (.iload 4, 2) := by decide +kernel
theorem dL_law_1279 : decode cL_law 1279 = .ok (.iconst 1, 1) := by decide +kernel
theorem dL_law_1280 : decode cL_law 1280 = .ok (.iadd, 1) := by decide +kernel
theorem dL_law_1281 : decode cL_law 1281 = .ok (.iaload, 1) := by decide +kernel
theorem dL_law_1282 : decode cL_law 1282 = .ok (.aload_n 0, 1) := by decide +kernel
theorem dL_law_1283 : decode cL_law 1283 = .ok (.iload 4, 2) := by decide +kernel
theorem dL_law_1285 : decode cL_law 1285 = .ok (.iconst 2, 1) := by decide +kernel
theorem dL_law_1286 : decode cL_law 1286 = .ok (.iadd, 1) := by decide +kernel
theorem dL_law_1287 : decode cL_law 1287 = .ok (.iaload, 1) := by decide +kernel
theorem dL_law_1288 : decode cL_law 1288 = .ok (.aload_n 3, 1) := by decide +kernel
theorem dL_law_1289 : decode cL_law 1289 = .ok (.invokestatic 173, 3) := by decide +kernel
theorem dL_law_1292 : decode cL_law 1292 = .ok (.istore 5, 2) := by decide +kernel
theorem dL_law_1294 : decode cL_law 1294 = .ok (.aload_n 2, 1) := by decide +kernel
theorem dL_law_1295 : decode cL_law 1295 = .ok (.aload_n 0, 1) := by decide +kernel
theorem dL_law_1296 : decode cL_law 1296 = .ok (.iload 4, 2) := by decide +kernel
theorem dL_law_1298 : decode cL_law 1298 = .ok (.iconst 1, 1) := by decide +kernel
theorem dL_law_1299 : decode cL_law 1299 = .ok (.iadd, 1) := by decide +kernel
theorem dL_law_1300 : decode cL_law 1300 = .ok (.iaload, 1) := by decide +kernel
theorem dL_law_1301 : decode cL_law 1301 = .ok (.aload_n 0, 1) := by decide +kernel
theorem dL_law_1302 : decode cL_law 1302 = .ok (.iload 4, 2) := by decide +kernel
theorem dL_law_1304 : decode cL_law 1304 = .ok (.iconst 2, 1) := by decide +kernel
theorem dL_law_1305 : decode cL_law 1305 = .ok (.iadd, 1) := by decide +kernel
theorem dL_law_1306 : decode cL_law 1306 = .ok (.iaload, 1) := by decide +kernel
theorem dL_law_1307 : decode cL_law 1307 = .ok (.invokevirtual 175, 3) := by decide +kernel
theorem dL_law_1310 : decode cL_law 1310 = .ok (.istore 6, 2) := by decide +kernel
theorem dL_law_1312 : decode cL_law 1312 = .ok (.aload_n 2, 1) := by decide +kernel
theorem dL_law_1313 : decode cL_law 1313 = .ok (.invokevirtual 114, 3) := by decide +kernel
theorem dL_law_1316 : decode cL_law 1316 = .ok (.iload 5, 2) := by decide +kernel
theorem dL_law_1318 : decode cL_law 1318 = .ok (.if_icmp .eq 5, 3) := by decide +kernel
theorem dL_law_1321 : decode cL_law 1321 = .ok (.iconst 0, 1) := by decide +kernel
theorem dL_law_1322 : decode cL_law 1322 = .ok (.ireturn, 1) := by decide +kernel
theorem dL_law_1323 : decode cL_law 1323 = .ok (.iload 5, 2) := by decide +kernel
theorem dL_law_1325 : decode cL_law 1325 = .ok (.ifCond .ne 15, 3) := by decide +kernel
theorem dL_law_1328 : decode cL_law 1328 = .ok (.aload_n 3, 1) := by decide +kernel
theorem dL_law_1329 : decode cL_law 1329 = .ok (.iconst 0, 1) := by decide +kernel
theorem dL_law_1330 : decode cL_law 1330 = .ok (.laload, 1) := by decide +kernel
theorem dL_law_1331 : decode cL_law 1331 = .ok (.iload 6, 2) := by decide +kernel
theorem dL_law_1333 : decode cL_law 1333 = .ok (.i2l, 1) := by decide +kernel
theorem dL_law_1334 : decode cL_law 1334 = .ok (.lcmp, 1) := by decide +kernel
theorem dL_law_1335 : decode cL_law 1335 = .ok (.ifCond .eq 5, 3) := by decide +kernel
theorem dL_law_1338 : decode cL_law 1338 = .ok (.iconst 0, 1) := by decide +kernel
theorem dL_law_1339 : decode cL_law 1339 = .ok (.ireturn, 1) := by decide +kernel
theorem dL_law_1340 : decode cL_law 1340 = .ok (.goto 583, 3) := by decide +kernel
theorem dL_law_1343 : decode cL_law 1343 = .ok (.aload_n 1, 1) := by decide +kernel
theorem dL_law_1344 : decode cL_law 1344 = .ok (.aload_n 0, 1) := by decide +kernel
theorem dL_law_1345 : decode cL_law 1345 = .ok (.iload 4, 2) := by decide +kernel
theorem dL_law_1347 : decode cL_law 1347 = .ok (.iconst 1, 1) := by decide +kernel
theorem dL_law_1348 : decode cL_law 1348 = .ok (.iadd, 1) := by decide +kernel
theorem dL_law_1349 : decode cL_law 1349 = .ok (.iaload, 1) := by decide +kernel
theorem dL_law_1350 : decode cL_law 1350 = .ok (.aload_n 3, 1) := by decide +kernel
theorem dL_law_1351 : decode cL_law 1351 = .ok (.invokestatic 176, 3) := by decide +kernel
theorem dL_law_1354 : decode cL_law 1354 = .ok (.istore 5, 2) := by decide +kernel
theorem dL_law_1356 : decode cL_law 1356 = .ok (.aload_n 2, 1) := by decide +kernel
theorem dL_law_1357 : decode cL_law 1357 = .ok (.aload_n 0, 1) := by decide +kernel
theorem dL_law_1358 : decode cL_law 1358 = .ok (.iload 4, 2) := by decide +kernel
theorem dL_law_1360 : decode cL_law 1360 = .ok (.iconst 1, 1) := by decide +kernel
theorem dL_law_1361 : decode cL_law 1361 = .ok (.iadd, 1) := by decide +kernel
theorem dL_law_1362 : decode cL_law 1362 = .ok (.iaload, 1) := by decide +kernel
theorem dL_law_1363 : decode cL_law 1363 = .ok (.invokevirtual 178, 3) := by decide +kernel
theorem dL_law_1366 : decode cL_law 1366 = .ok (.istore 6, 2) := by decide +kernel
theorem dL_law_1368 : decode cL_law 1368 = .ok (.aload_n 2, 1) := by decide +kernel
theorem dL_law_1369 : decode cL_law 1369 = .ok (.invokevirtual 114, 3) := by decide +kernel
theorem dL_law_1372 : decode cL_law 1372 = .ok (.iload 5, 2) := by decide +kernel
theorem dL_law_1374 : decode cL_law 1374 = .ok (.if_icmp .eq 5, 3) := by decide +kernel
theorem dL_law_1377 : decode cL_law 1377 = .ok (.iconst 0, 1) := by decide +kernel
theorem dL_law_1378 : decode cL_law 1378 = .ok (.ireturn, 1) := by decide +kernel
theorem dL_law_1379 : decode cL_law 1379 = .ok (.iload 5, 2) := by decide +kernel
theorem dL_law_1381 : decode cL_law 1381 = .ok (.ifCond .ne 15, 3) := by decide +kernel
theorem dL_law_1384 : decode cL_law 1384 = .ok (.aload_n 3, 1) := by decide +kernel
theorem dL_law_1385 : decode cL_law 1385 = .ok (.iconst 0, 1) := by decide +kernel
theorem dL_law_1386 : decode cL_law 1386 = .ok (.laload, 1) := by decide +kernel
theorem dL_law_1387 : decode cL_law 1387 = .ok (.iload 6, 2) := by decide +kernel
theorem dL_law_1389 : decode cL_law 1389 = .ok (.i2l, 1) := by decide +kernel
theorem dL_law_1390 : decode cL_law 1390 = .ok (.lcmp, 1) := by decide +kernel
theorem dL_law_1391 : decode cL_law 1391 = .ok (.ifCond .eq 5, 3) := by decide +kernel
theorem dL_law_1394 : decode cL_law 1394 = .ok (.iconst 0, 1) := by decide +kernel
theorem dL_law_1395 : decode cL_law 1395 = .ok (.ireturn, 1) := by decide +kernel
theorem dL_law_1396 : decode cL_law 1396 = .ok (.goto 527, 3) := by decide +kernel
theorem dL_law_1399 : decode cL_law 1399 = .ok (.aload_n 1, 1) := by decide +kernel
theorem dL_law_1400 : decode cL_law 1400 = .ok (.aload_n 0, 1) := by decide +kernel
theorem dL_law_1401 : decode cL_law 1401 = .ok (.iload 4, 2) := by decide +kernel
theorem dL_law_1403 : decode cL_law 1403 = .ok (.iconst 1, 1) := by decide +kernel
theorem dL_law_1404 : decode cL_law 1404 = .ok (.iadd, 1) := by decide +kernel
theorem dL_law_1405 : decode cL_law 1405 = .ok (.iaload, 1) := by decide +kernel
theorem dL_law_1406 : decode cL_law 1406 = .ok (.aload_n 0, 1) := by decide +kernel
theorem dL_law_1407 : decode cL_law 1407 = .ok (.iload 4, 2) := by decide +kernel
theorem dL_law_1409 : decode cL_law 1409 = .ok (.iconst 2, 1) := by decide +kernel
theorem dL_law_1410 : decode cL_law 1410 = .ok (.iadd, 1) := by decide +kernel
theorem dL_law_1411 : decode cL_law 1411 = .ok (.iaload, 1) := by decide +kernel
theorem dL_law_1412 : decode cL_law 1412 = .ok (.aload_n 0, 1) := by decide +kernel
theorem dL_law_1413 : decode cL_law 1413 = .ok (.iload 4, 2) := by decide +kernel
theorem dL_law_1415 : decode cL_law 1415 = .ok (.iconst 3, 1) := by decide +kernel
theorem dL_law_1416 : decode cL_law 1416 = .ok (.iadd, 1) := by decide +kernel
theorem dL_law_1417 : decode cL_law 1417 = .ok (.iaload, 1) := by decide +kernel
theorem dL_law_1418 : decode cL_law 1418 = .ok (.aload_n 0, 1) := by decide +kernel
theorem dL_law_1419 : decode cL_law 1419 = .ok (.iload 4, 2) := by decide +kernel
theorem dL_law_1421 : decode cL_law 1421 = .ok (.iconst 4, 1) := by decide +kernel
theorem dL_law_1422 : decode cL_law 1422 = .ok (.iadd, 1) := by decide +kernel
theorem dL_law_1423 : decode cL_law 1423 = .ok (.iaload, 1) := by decide +kernel
theorem dL_law_1424 : decode cL_law 1424 = .ok (.aload_n 0, 1) := by decide +kernel
theorem dL_law_1425 : decode cL_law 1425 = .ok (.iload 4, 2) := by decide +kernel
theorem dL_law_1427 : decode cL_law 1427 = .ok (.iconst 5, 1) := by decide +kernel
theorem dL_law_1428 : decode cL_law 1428 = .ok (.iadd, 1) := by decide +kernel
theorem dL_law_1429 : decode cL_law 1429 = .ok (.iaload, 1) := by decide +kernel
theorem dL_law_1430 : decode cL_law 1430 = .ok (.aload_n 0, 1) := by decide +kernel
theorem dL_law_1431 : decode cL_law 1431 = .ok (.iload 4, 2) := by decide +kernel
theorem dL_law_1433 : decode cL_law 1433 = .ok (.bipush 6, 2) := by decide +kernel
theorem dL_law_1435 : decode cL_law 1435 = .ok (.iadd, 1) := by decide +kernel
theorem dL_law_1436 : decode cL_law 1436 = .ok (.iaload, 1) := by decide +kernel
theorem dL_law_1437 : decode cL_law 1437 = .ok (.ifCond .eq 7, 3) := by decide +kernel
theorem dL_law_1440 : decode cL_law 1440 = .ok (.iconst 1, 1) := by decide +kernel
theorem dL_law_1441 : decode cL_law 1441 = .ok (.goto 4, 3) := by decide +kernel
theorem dL_law_1444 : decode cL_law 1444 = .ok (.iconst 0, 1) := by decide +kernel
theorem dL_law_1445 : decode cL_law 1445 = .ok (.aload_n 3, 1) := by decide +kernel
theorem dL_law_1446 : decode cL_law 1446 = .ok (.invokestatic 179, 3) := by decide +kernel
theorem dL_law_1449 : decode cL_law 1449 = .ok (.istore 5, 2) := by decide +kernel
theorem dL_law_1451 : decode cL_law 1451 = .ok (.aload_n 2, 1) := by decide +kernel
theorem dL_law_1452 : decode cL_law 1452 = .ok (.aload_n 0, 1) := by decide +kernel
theorem dL_law_1453 : decode cL_law 1453 = .ok (.iload 4, 2) := by decide +kernel
theorem dL_law_1455 : decode cL_law 1455 = .ok (.iconst 1, 1) := by decide +kernel
theorem dL_law_1456 : decode cL_law 1456 = .ok (.iadd, 1) := by decide +kernel
theorem dL_law_1457 : decode cL_law 1457 = .ok (.iaload, 1) := by decide +kernel
theorem dL_law_1458 : decode cL_law 1458 = .ok (.aload_n 0, 1) := by decide +kernel
theorem dL_law_1459 : decode cL_law 1459 = .ok (.iload 4, 2) := by decide +kernel
theorem dL_law_1461 : decode cL_law 1461 = .ok (.iconst 2, 1) := by decide +kernel
theorem dL_law_1462 : decode cL_law 1462 = .ok (.iadd, 1) := by decide +kernel
theorem dL_law_1463 : decode cL_law 1463 = .ok (.iaload, 1) := by decide +kernel
theorem dL_law_1464 : decode cL_law 1464 = .ok (.aload_n 0, 1) := by decide +kernel
theorem dL_law_1465 : decode cL_law 1465 = .ok (.iload 4, 2) := by decide +kernel
theorem dL_law_1467 : decode cL_law 1467 = .ok (.iconst 3, 1) := by decide +kernel
theorem dL_law_1468 : decode cL_law 1468 = .ok (.iadd, 1) := by decide +kernel
theorem dL_law_1469 : decode cL_law 1469 = .ok (.iaload, 1) := by decide +kernel
theorem dL_law_1470 : decode cL_law 1470 = .ok (.aload_n 0, 1) := by decide +kernel
theorem dL_law_1471 : decode cL_law 1471 = .ok (.iload 4, 2) := by decide +kernel
theorem dL_law_1473 : decode cL_law 1473 = .ok (.iconst 4, 1) := by decide +kernel
theorem dL_law_1474 : decode cL_law 1474 = .ok (.iadd, 1) := by decide +kernel
theorem dL_law_1475 : decode cL_law 1475 = .ok (.iaload, 1) := by decide +kernel
theorem dL_law_1476 : decode cL_law 1476 = .ok (.aload_n 0, 1) := by decide +kernel
theorem dL_law_1477 : decode cL_law 1477 = .ok (.iload 4, 2) := by decide +kernel
theorem dL_law_1479 : decode cL_law 1479 = .ok (.iconst 5, 1) := by decide +kernel
theorem dL_law_1480 : decode cL_law 1480 = .ok (.iadd, 1) := by decide +kernel
theorem dL_law_1481 : decode cL_law 1481 = .ok (.iaload, 1) := by decide +kernel
theorem dL_law_1482 : decode cL_law 1482 = .ok (.aload_n 0, 1) := by decide +kernel
theorem dL_law_1483 : decode cL_law 1483 = .ok (.iload 4, 2) := by decide +kernel
theorem dL_law_1485 : decode cL_law 1485 = .ok (.bipush 6, 2) := by decide +kernel
theorem dL_law_1487 : decode cL_law 1487 = .ok (.iadd, 1) := by decide +kernel
theorem dL_law_1488 : decode cL_law 1488 = .ok (.iaload, 1) := by decide +kernel
theorem dL_law_1489 : decode cL_law 1489 = .ok (.ifCond .eq 7, 3) := by decide +kernel
theorem dL_law_1492 : decode cL_law 1492 = .ok (.iconst 1, 1) := by decide +kernel
theorem dL_law_1493 : decode cL_law 1493 = .ok (.goto 4, 3) := by decide +kernel
theorem dL_law_1496 : decode cL_law 1496 = .ok (.iconst 0, 1) := by decide +kernel
theorem dL_law_1497 : decode cL_law 1497 = .ok (.invokevirtual 182, 3) := by decide +kernel
theorem dL_law_1500 : decode cL_law 1500 = .ok (.istore 6, 2) := by decide +kernel
theorem dL_law_1502 : decode cL_law 1502 = .ok (.aload_n 2, 1) := by decide +kernel
theorem dL_law_1503 : decode cL_law 1503 = .ok (.invokevirtual 114, 3) := by decide +kernel
theorem dL_law_1506 : decode cL_law 1506 = .ok (.iload 5, 2) := by decide +kernel
theorem dL_law_1508 : decode cL_law 1508 = .ok (.if_icmp .eq 5, 3) := by decide +kernel
theorem dL_law_1511 : decode cL_law 1511 = .ok (.iconst 0, 1) := by decide +kernel
theorem dL_law_1512 : decode cL_law 1512 = .ok (.ireturn, 1) := by decide +kernel
theorem dL_law_1513 : decode cL_law 1513 = .ok (.iload 5, 2) := by decide +kernel
theorem dL_law_1515 : decode cL_law 1515 = .ok (.ifCond .ne 15, 3) := by decide +kernel
theorem dL_law_1518 : decode cL_law 1518 = .ok (.aload_n 3, 1) := by decide +kernel
theorem dL_law_1519 : decode cL_law 1519 = .ok (.iconst 0, 1) := by decide +kernel
theorem dL_law_1520 : decode cL_law 1520 = .ok (.laload, 1) := by decide +kernel
theorem dL_law_1521 : decode cL_law 1521 = .ok (.iload 6, 2) := by decide +kernel
theorem dL_law_1523 : decode cL_law 1523 = .ok (.i2l, 1) := by decide +kernel
theorem dL_law_1524 : decode cL_law 1524 = .ok (.lcmp, 1) := by decide +kernel
theorem dL_law_1525 : decode cL_law 1525 = .ok (.ifCond .eq 5, 3) := by decide +kernel
theorem dL_law_1528 : decode cL_law 1528 = .ok (.iconst 0, 1) := by decide +kernel
theorem dL_law_1529 : decode cL_law 1529 = .ok (.ireturn, 1) := by decide +kernel
theorem dL_law_1530 : decode cL_law 1530 = .ok (.goto 393, 3) := by decide +kernel
theorem dL_law_1533 : decode cL_law 1533 = .ok (.aload_n 1, 1) := by decide +kernel
theorem dL_law_1534 : decode cL_law 1534 = .ok (.aload_n 0, 1) := by decide +kernel
theorem dL_law_1535 : decode cL_law 1535 = .ok (.iload 4, 2) := by decide +kernel
theorem dL_law_1537 : decode cL_law 1537 = .ok (.iconst 1, 1) := by decide +kernel
theorem dL_law_1538 : decode cL_law 1538 = .ok (.iadd, 1) := by decide +kernel
theorem dL_law_1539 : decode cL_law 1539 = .ok (.iaload, 1) := by decide +kernel
theorem dL_law_1540 : decode cL_law 1540 = .ok (.aload_n 3, 1) := by decide +kernel
theorem dL_law_1541 : decode cL_law 1541 = .ok (.invokestatic 183, 3) := by decide +kernel
theorem dL_law_1544 : decode cL_law 1544 = .ok (.istore 5, 2) := by decide +kernel
theorem dL_law_1546 : decode cL_law 1546 = .ok (.aload_n 2, 1) := by decide +kernel
theorem dL_law_1547 : decode cL_law 1547 = .ok (.aload_n 0, 1) := by decide +kernel
theorem dL_law_1548 : decode cL_law 1548 = .ok (.iload 4, 2) := by decide +kernel
theorem dL_law_1550 : decode cL_law 1550 = .ok (.iconst 1, 1) := by decide +kernel
theorem dL_law_1551 : decode cL_law 1551 = .ok (.iadd, 1) := by decide +kernel
theorem dL_law_1552 : decode cL_law 1552 = .ok (.iaload, 1) := by decide +kernel
theorem dL_law_1553 : decode cL_law 1553 = .ok (.invokevirtual 185, 3) := by decide +kernel
theorem dL_law_1556 : decode cL_law 1556 = .ok (.istore 6, 2) := by decide +kernel
theorem dL_law_1558 : decode cL_law 1558 = .ok (.aload_n 2, 1) := by decide +kernel
theorem dL_law_1559 : decode cL_law 1559 = .ok (.invokevirtual 114, 3) := by decide +kernel
theorem dL_law_1562 : decode cL_law 1562 = .ok (.iload 5, 2) := by decide +kernel
theorem dL_law_1564 : decode cL_law 1564 = .ok (.if_icmp .eq 5, 3) := by decide +kernel
theorem dL_law_1567 : decode cL_law 1567 = .ok (.iconst 0, 1) := by decide +kernel
theorem dL_law_1568 : decode cL_law 1568 = .ok (.ireturn, 1) := by decide +kernel
theorem dL_law_1569 : decode cL_law 1569 = .ok (.iload 5, 2) := by decide +kernel
theorem dL_law_1571 : decode cL_law 1571 = .ok (.ifCond .ne 15, 3) := by decide +kernel
theorem dL_law_1574 : decode cL_law 1574 = .ok (.aload_n 3, 1) := by decide +kernel
theorem dL_law_1575 : decode cL_law 1575 = .ok (.iconst 0, 1) := by decide +kernel
theorem dL_law_1576 : decode cL_law 1576 = .ok (.laload, 1) := by decide +kernel
theorem dL_law_1577 : decode cL_law 1577 = .ok (.iload 6, 2) := by decide +kernel
theorem dL_law_1579 : decode cL_law 1579 = .ok (.i2l, 1) := by decide +kernel
theorem dL_law_1580 : decode cL_law 1580 = .ok (.lcmp, 1) := by decide +kernel
theorem dL_law_1581 : decode cL_law 1581 = .ok (.ifCond .eq 5, 3) := by decide +kernel
theorem dL_law_1584 : decode cL_law 1584 = .ok (.iconst 0, 1) := by decide +kernel
theorem dL_law_1585 : decode cL_law 1585 = .ok (.ireturn, 1) := by decide +kernel
theorem dL_law_1586 : decode cL_law 1586 = .ok (.goto 337, 3) := by decide +kernel
theorem dL_law_1589 : decode cL_law 1589 = .ok (.aload_n 1, 1) := by decide +kernel
theorem dL_law_1590 : decode cL_law 1590 = .ok (.aload_n 0, 1) := by decide +kernel
theorem dL_law_1591 : decode cL_law 1591 = .ok (.iload 4, 2) := by decide +kernel
theorem dL_law_1593 : decode cL_law 1593 = .ok (.iconst 1, 1) := by decide +kernel
theorem dL_law_1594 : decode cL_law 1594 = .ok (.iadd, 1) := by decide +kernel
theorem dL_law_1595 : decode cL_law 1595 = .ok (.iaload, 1) := by decide +kernel
theorem dL_law_1596 : decode cL_law 1596 = .ok (.aload_n 3, 1) := by decide +kernel
theorem dL_law_1597 : decode cL_law 1597 = .ok (.invokestatic 186, 3) := by decide +kernel
theorem dL_law_1600 : decode cL_law 1600 = .ok (.istore 5, 2) := by decide +kernel
theorem dL_law_1602 : decode cL_law 1602 = .ok (.aload_n 2, 1) := by decide +kernel
theorem dL_law_1603 : decode cL_law 1603 = .ok (.aload_n 0, 1) := by decide +kernel
theorem dL_law_1604 : decode cL_law 1604 = .ok (.iload 4, 2) := by decide +kernel
theorem dL_law_1606 : decode cL_law 1606 = .ok (.iconst 1, 1) := by decide +kernel
theorem dL_law_1607 : decode cL_law 1607 = .ok (.iadd, 1) := by decide +kernel
theorem dL_law_1608 : decode cL_law 1608 = .ok (.iaload, 1) := by decide +kernel
theorem dL_law_1609 : decode cL_law 1609 = .ok (.invokevirtual 188, 3) := by decide +kernel
theorem dL_law_1612 : decode cL_law 1612 = .ok (.istore 6, 2) := by decide +kernel
theorem dL_law_1614 : decode cL_law 1614 = .ok (.aload_n 2, 1) := by decide +kernel
theorem dL_law_1615 : decode cL_law 1615 = .ok (.invokevirtual 114, 3) := by decide +kernel
theorem dL_law_1618 : decode cL_law 1618 = .ok (.iload 5, 2) := by decide +kernel
theorem dL_law_1620 : decode cL_law 1620 = .ok (.if_icmp .eq 5, 3) := by decide +kernel
theorem dL_law_1623 : decode cL_law 1623 = .ok (.iconst 0, 1) := by decide +kernel
theorem dL_law_1624 : decode cL_law 1624 = .ok (.ireturn, 1) := by decide +kernel
theorem dL_law_1625 : decode cL_law 1625 = .ok (.iload 5, 2) := by decide +kernel
theorem dL_law_1627 : decode cL_law 1627 = .ok (.ifCond .ne 15, 3) := by decide +kernel
theorem dL_law_1630 : decode cL_law 1630 = .ok (.aload_n 3, 1) := by decide +kernel
theorem dL_law_1631 : decode cL_law 1631 = .ok (.iconst 0, 1) := by decide +kernel
theorem dL_law_1632 : decode cL_law 1632 = .ok (.laload, 1) := by decide +kernel
theorem dL_law_1633 : decode cL_law 1633 = .ok (.iload 6, 2) := by decide +kernel
theorem dL_law_1635 : decode cL_law 1635 = .ok (.i2l, 1) := by decide +kernel
theorem dL_law_1636 : decode cL_law 1636 = .ok (.lcmp, 1) := by decide +kernel
theorem dL_law_1637 : decode cL_law 1637 = .ok (.ifCond .eq 5, 3) := by decide +kernel
theorem dL_law_1640 : decode cL_law 1640 = .ok (.iconst 0, 1) := by decide +kernel
theorem dL_law_1641 : decode cL_law 1641 = .ok (.ireturn, 1) := by decide +kernel
theorem dL_law_1642 : decode cL_law 1642 = .ok (.goto 281, 3) := by decide +kernel
theorem dL_law_1645 : decode cL_law 1645 = .ok (.aload_n 1, 1) := by decide +kernel
theorem dL_law_1646 : decode cL_law 1646 = .ok (.aload_n 0, 1) := by decide +kernel
theorem dL_law_1647 : decode cL_law 1647 = .ok (.iload 4, 2) := by decide +kernel
theorem dL_law_1649 : decode cL_law 1649 = .ok (.iconst 1, 1) := by decide +kernel
theorem dL_law_1650 : decode cL_law 1650 = .ok (.iadd, 1) := by decide +kernel
theorem dL_law_1651 : decode cL_law 1651 = .ok (.iaload, 1) := by decide +kernel
theorem dL_law_1652 : decode cL_law 1652 = .ok (.aload_n 3, 1) := by decide +kernel
theorem dL_law_1653 : decode cL_law 1653 = .ok (.invokestatic 189, 3) := by decide +kernel
theorem dL_law_1656 : decode cL_law 1656 = .ok (.istore 5, 2) := by decide +kernel
theorem dL_law_1658 : decode cL_law 1658 = .ok (.aload_n 2, 1) := by decide +kernel
theorem dL_law_1659 : decode cL_law 1659 = .ok (.aload_n 0, 1) := by decide +kernel
theorem dL_law_1660 : decode cL_law 1660 = .ok (.iload 4, 2) := by decide +kernel
theorem dL_law_1662 : decode cL_law 1662 = .ok (.iconst 1, 1) := by decide +kernel
theorem dL_law_1663 : decode cL_law 1663 = .ok (.iadd, 1) := by decide +kernel
theorem dL_law_1664 : decode cL_law 1664 = .ok (.iaload, 1) := by decide +kernel
theorem dL_law_1665 : decode cL_law 1665 = .ok (.invokevirtual 191, 3) := by decide +kernel
theorem dL_law_1668 : decode cL_law 1668 = .ok (.istore 6, 2) := by decide +kernel
theorem dL_law_1670 : decode cL_law 1670 = .ok (.aload_n 2, 1) := by decide +kernel
theorem dL_law_1671 : decode cL_law 1671 = .ok (.invokevirtual 114, 3) := by decide +kernel
theorem dL_law_1674 : decode cL_law 1674 = .ok (.iload 5, 2) := by decide +kernel
theorem dL_law_1676 : decode cL_law 1676 = .ok (.if_icmp .eq 5, 3) := by decide +kernel
theorem dL_law_1679 : decode cL_law 1679 = .ok (.iconst 0, 1) := by decide +kernel
theorem dL_law_1680 : decode cL_law 1680 = .ok (.ireturn, 1) := by decide +kernel
theorem dL_law_1681 : decode cL_law 1681 = .ok (.iload 5, 2) := by decide +kernel
theorem dL_law_1683 : decode cL_law 1683 = .ok (.ifCond .ne 15, 3) := by decide +kernel
theorem dL_law_1686 : decode cL_law 1686 = .ok (.aload_n 3, 1) := by decide +kernel
theorem dL_law_1687 : decode cL_law 1687 = .ok (.iconst 0, 1) := by decide +kernel
theorem dL_law_1688 : decode cL_law 1688 = .ok (.laload, 1) := by decide +kernel
theorem dL_law_1689 : decode cL_law 1689 = .ok (.iload 6, 2) := by decide +kernel
theorem dL_law_1691 : decode cL_law 1691 = .ok (.i2l, 1) := by decide +kernel
theorem dL_law_1692 : decode cL_law 1692 = .ok (.lcmp, 1) := by decide +kernel
theorem dL_law_1693 : decode cL_law 1693 = .ok (.ifCond .eq 5, 3) := by decide +kernel
theorem dL_law_1696 : decode cL_law 1696 = .ok (.iconst 0, 1) := by decide +kernel
theorem dL_law_1697 : decode cL_law 1697 = .ok (.ireturn, 1) := by decide +kernel
theorem dL_law_1698 : decode cL_law 1698 = .ok (.goto 225, 3) := by decide +kernel
theorem dL_law_1701 : decode cL_law 1701 = .ok (.aload_n 1, 1) := by decide +kernel
theorem dL_law_1702 : decode cL_law 1702 = .ok (.aload_n 0, 1) := by decide +kernel
theorem dL_law_1703 : decode cL_law 1703 = .ok (.iload 4, 2) := by decide +kernel
theorem dL_law_1705 : decode cL_law 1705 = .ok (.iconst 1, 1) := by decide +kernel
theorem dL_law_1706 : decode cL_law 1706 = .ok (.iadd, 1) := by decide +kernel
theorem dL_law_1707 : decode cL_law 1707 = .ok (.iaload, 1) := by decide +kernel
theorem dL_law_1708 : decode cL_law 1708 = .ok (.aload_n 3, 1) := by decide +kernel
theorem dL_law_1709 : decode cL_law 1709 = .ok (.invokestatic 192, 3) := by decide +kernel
theorem dL_law_1712 : decode cL_law 1712 = .ok (.istore 5, 2) := by decide +kernel
theorem dL_law_1714 : decode cL_law 1714 = .ok (.aload_n 2, 1) := by decide +kernel
theorem dL_law_1715 : decode cL_law 1715 = .ok (.aload_n 0, 1) := by decide +kernel
theorem dL_law_1716 : decode cL_law 1716 = .ok (.iload 4, 2) := by decide +kernel
theorem dL_law_1718 : decode cL_law 1718 = .ok (.iconst 1, 1) := by decide +kernel
theorem dL_law_1719 : decode cL_law 1719 = .ok (.iadd, 1) := by decide +kernel
theorem dL_law_1720 : decode cL_law 1720 = .ok (.iaload, 1) := by decide +kernel
theorem dL_law_1721 : decode cL_law 1721 = .ok (.invokevirtual 194, 3) := by decide +kernel
theorem dL_law_1724 : decode cL_law 1724 = .ok (.istore 6, 2) := by decide +kernel
theorem dL_law_1726 : decode cL_law 1726 = .ok (.aload_n 2, 1) := by decide +kernel
theorem dL_law_1727 : decode cL_law 1727 = .ok (.invokevirtual 114, 3) := by decide +kernel
theorem dL_law_1730 : decode cL_law 1730 = .ok (.iload 5, 2) := by decide +kernel
theorem dL_law_1732 : decode cL_law 1732 = .ok (.if_icmp .eq 5, 3) := by decide +kernel
theorem dL_law_1735 : decode cL_law 1735 = .ok (.iconst 0, 1) := by decide +kernel
theorem dL_law_1736 : decode cL_law 1736 = .ok (.ireturn, 1) := by decide +kernel
theorem dL_law_1737 : decode cL_law 1737 = .ok (.iload 5, 2) := by decide +kernel
theorem dL_law_1739 : decode cL_law 1739 = .ok (.ifCond .ne 15, 3) := by decide +kernel
theorem dL_law_1742 : decode cL_law 1742 = .ok (.aload_n 3, 1) := by decide +kernel
theorem dL_law_1743 : decode cL_law 1743 = .ok (.iconst 0, 1) := by decide +kernel
theorem dL_law_1744 : decode cL_law 1744 = .ok (.laload, 1) := by decide +kernel
theorem dL_law_1745 : decode cL_law 1745 = .ok (.iload 6, 2) := by decide +kernel
theorem dL_law_1747 : decode cL_law 1747 = .ok (.i2l, 1) := by decide +kernel
theorem dL_law_1748 : decode cL_law 1748 = .ok (.lcmp, 1) := by decide +kernel
theorem dL_law_1749 : decode cL_law 1749 = .ok (.ifCond .eq 5, 3) := by decide +kernel
theorem dL_law_1752 : decode cL_law 1752 = .ok (.iconst 0, 1) := by decide +kernel
theorem dL_law_1753 : decode cL_law 1753 = .ok (.ireturn, 1) := by decide +kernel
theorem dL_law_1754 : decode cL_law 1754 = .ok (.goto 169, 3) := by decide +kernel
theorem dL_law_1757 : decode cL_law 1757 = .ok (.aload_n 1, 1) := by decide +kernel
theorem dL_law_1758 : decode cL_law 1758 = .ok (.aload_n 0, 1) := by decide +kernel
theorem dL_law_1759 : decode cL_law 1759 = .ok (.iload 4, 2) := by decide +kernel
theorem dL_law_1761 : decode cL_law 1761 = .ok (.iconst 1, 1) := by decide +kernel
theorem dL_law_1762 : decode cL_law 1762 = .ok (.iadd, 1) := by decide +kernel
theorem dL_law_1763 : decode cL_law 1763 = .ok (.iaload, 1) := by decide +kernel
theorem dL_law_1764 : decode cL_law 1764 = .ok (.aload_n 3, 1) := by decide +kernel
theorem dL_law_1765 : decode cL_law 1765 = .ok (.invokestatic 195, 3) := by decide +kernel
theorem dL_law_1768 : decode cL_law 1768 = .ok (.istore 5, 2) := by decide +kernel
theorem dL_law_1770 : decode cL_law 1770 = .ok (.aload_n 2, 1) := by decide +kernel
theorem dL_law_1771 : decode cL_law 1771 = .ok (.aload_n 0, 1) := by decide +kernel
theorem dL_law_1772 : decode cL_law 1772 = .ok (.iload 4, 2) := by decide +kernel
theorem dL_law_1774 : decode cL_law 1774 = .ok (.iconst 1, 1) := by decide +kernel
theorem dL_law_1775 : decode cL_law 1775 = .ok (.iadd, 1) := by decide +kernel
theorem dL_law_1776 : decode cL_law 1776 = .ok (.iaload, 1) := by decide +kernel
theorem dL_law_1777 : decode cL_law 1777 = .ok (.invokevirtual 197, 3) := by decide +kernel
theorem dL_law_1780 : decode cL_law 1780 = .ok (.istore 6, 2) := by decide +kernel
theorem dL_law_1782 : decode cL_law 1782 = .ok (.aload_n 2, 1) := by decide +kernel
theorem dL_law_1783 : decode cL_law 1783 = .ok (.invokevirtual 114, 3) := by decide +kernel
theorem dL_law_1786 : decode cL_law 1786 = .ok (.iload 5, 2) := by decide +kernel
theorem dL_law_1788 : decode cL_law 1788 = .ok (.if_icmp .eq 5, 3) := by decide +kernel
theorem dL_law_1791 : decode cL_law 1791 = .ok (.iconst 0, 1) := by decide +kernel
theorem dL_law_1792 : decode cL_law 1792 = .ok (.ireturn, 1) := by decide +kernel
theorem dL_law_1793 : decode cL_law 1793 = .ok (.iload 5, 2) := by decide +kernel
theorem dL_law_1795 : decode cL_law 1795 = .ok (.ifCond .ne 15, 3) := by decide +kernel
theorem dL_law_1798 : decode cL_law 1798 = .ok (.aload_n 3, 1) := by decide +kernel
theorem dL_law_1799 : decode cL_law 1799 = .ok (.iconst 0, 1) := by decide +kernel
theorem dL_law_1800 : decode cL_law 1800 = .ok (.laload, 1) := by decide +kernel
theorem dL_law_1801 : decode cL_law 1801 = .ok (.iload 6, 2) := by decide +kernel
theorem dL_law_1803 : decode cL_law 1803 = .ok (.i2l, 1) := by decide +kernel
theorem dL_law_1804 : decode cL_law 1804 = .ok (.lcmp, 1) := by decide +kernel
theorem dL_law_1805 : decode cL_law 1805 = .ok (.ifCond .eq 5, 3) := by decide +kernel
theorem dL_law_1808 : decode cL_law 1808 = .ok (.iconst 0, 1) := by decide +kernel
theorem dL_law_1809 : decode cL_law 1809 = .ok (.ireturn, 1) := by decide +kernel
theorem dL_law_1810 : decode cL_law 1810 = .ok (.goto 113, 3) := by decide +kernel
theorem dL_law_1813 : decode cL_law 1813 = .ok (.aload_n 1, 1) := by decide +kernel
theorem dL_law_1814 : decode cL_law 1814 = .ok (.aload_n 0, 1) := by decide +kernel
theorem dL_law_1815 : decode cL_law 1815 = .ok (.iload 4, 2) := by decide +kernel
theorem dL_law_1817 : decode cL_law 1817 = .ok (.iconst 1, 1) := by decide +kernel
theorem dL_law_1818 : decode cL_law 1818 = .ok (.iadd, 1) := by decide +kernel
theorem dL_law_1819 : decode cL_law 1819 = .ok (.iaload, 1) := by decide +kernel
theorem dL_law_1820 : decode cL_law 1820 = .ok (.aload_n 3, 1) := by decide +kernel
theorem dL_law_1821 : decode cL_law 1821 = .ok (.invokestatic 198, 3) := by decide +kernel
theorem dL_law_1824 : decode cL_law 1824 = .ok (.istore 5, 2) := by decide +kernel
theorem dL_law_1826 : decode cL_law 1826 = .ok (.aload_n 2, 1) := by decide +kernel
theorem dL_law_1827 : decode cL_law 1827 = .ok (.aload_n 0, 1) := by decide +kernel
theorem dL_law_1828 : decode cL_law 1828 = .ok (.iload 4, 2) := by decide +kernel
theorem dL_law_1830 : decode cL_law 1830 = .ok (.iconst 1, 1) := by decide +kernel
theorem dL_law_1831 : decode cL_law 1831 = .ok (.iadd, 1) := by decide +kernel
theorem dL_law_1832 : decode cL_law 1832 = .ok (.iaload, 1) := by decide +kernel
theorem dL_law_1833 : decode cL_law 1833 = .ok (.invokevirtual 200, 3) := by decide +kernel
theorem dL_law_1836 : decode cL_law 1836 = .ok (.lstore 6, 2) := by decide +kernel
theorem dL_law_1838 : decode cL_law 1838 = .ok (.aload_n 2, 1) := by decide +kernel
theorem dL_law_1839 : decode cL_law 1839 = .ok (.invokevirtual 114, 3) := by decide +kernel
theorem dL_law_1842 : decode cL_law 1842 = .ok (.iload 5, 2) := by decide +kernel
theorem dL_law_1844 : decode cL_law 1844 = .ok (.if_icmp .eq 5, 3) := by decide +kernel
theorem dL_law_1847 : decode cL_law 1847 = .ok (.iconst 0, 1) := by decide +kernel
theorem dL_law_1848 : decode cL_law 1848 = .ok (.ireturn, 1) := by decide +kernel
theorem dL_law_1849 : decode cL_law 1849 = .ok (.iload 5, 2) := by decide +kernel
theorem dL_law_1851 : decode cL_law 1851 = .ok (.ifCond .ne 14, 3) := by decide +kernel
theorem dL_law_1854 : decode cL_law 1854 = .ok (.aload_n 3, 1) := by decide +kernel
theorem dL_law_1855 : decode cL_law 1855 = .ok (.iconst 0, 1) := by decide +kernel
theorem dL_law_1856 : decode cL_law 1856 = .ok (.laload, 1) := by decide +kernel
theorem dL_law_1857 : decode cL_law 1857 = .ok (.lload 6, 2) := by decide +kernel
theorem dL_law_1859 : decode cL_law 1859 = .ok (.lcmp, 1) := by decide +kernel
theorem dL_law_1860 : decode cL_law 1860 = .ok (.ifCond .eq 5, 3) := by decide +kernel
theorem dL_law_1863 : decode cL_law 1863 = .ok (.iconst 0, 1) := by decide +kernel
theorem dL_law_1864 : decode cL_law 1864 = .ok (.ireturn, 1) := by decide +kernel
theorem dL_law_1865 : decode cL_law 1865 = .ok (.goto 58, 3) := by decide +kernel
theorem dL_law_1868 : decode cL_law 1868 = .ok (.aload_n 1, 1) := by decide +kernel
theorem dL_law_1869 : decode cL_law 1869 = .ok (.aload_n 0, 1) := by decide +kernel
theorem dL_law_1870 : decode cL_law 1870 = .ok (.iload 4, 2) := by decide +kernel
theorem dL_law_1872 : decode cL_law 1872 = .ok (.iconst 1, 1) := by decide +kernel
theorem dL_law_1873 : decode cL_law 1873 = .ok (.iadd, 1) := by decide +kernel
theorem dL_law_1874 : decode cL_law 1874 = .ok (.iaload, 1) := by decide +kernel
theorem dL_law_1875 : decode cL_law 1875 = .ok (.aload_n 3, 1) := by decide +kernel
theorem dL_law_1876 : decode cL_law 1876 = .ok (.invokestatic 201, 3) := by decide +kernel
theorem dL_law_1879 : decode cL_law 1879 = .ok (.istore 5, 2) := by decide +kernel
theorem dL_law_1881 : decode cL_law 1881 = .ok (.aload_n 2, 1) := by decide +kernel
theorem dL_law_1882 : decode cL_law 1882 = .ok (.aload_n 0, 1) := by decide +kernel
theorem dL_law_1883 : decode cL_law 1883 = .ok (.iload 4, 2) := by decide +kernel
theorem dL_law_1885 : decode cL_law 1885 = .ok (.iconst 1, 1) := by decide +kernel
theorem dL_law_1886 : decode cL_law 1886 = .ok (.iadd, 1) := by decide +kernel
theorem dL_law_1887 : decode cL_law 1887 = .ok (.iaload, 1) := by decide +kernel
theorem dL_law_1888 : decode cL_law 1888 = .ok (.invokevirtual 203, 3) := by decide +kernel
theorem dL_law_1891 : decode cL_law 1891 = .ok (.lstore 6, 2) := by decide +kernel
theorem dL_law_1893 : decode cL_law 1893 = .ok (.aload_n 2, 1) := by decide +kernel
theorem dL_law_1894 : decode cL_law 1894 = .ok (.invokevirtual 114, 3) := by decide +kernel
theorem dL_law_1897 : decode cL_law 1897 = .ok (.iload 5, 2) := by decide +kernel
theorem dL_law_1899 : decode cL_law 1899 = .ok (.if_icmp .eq 5, 3) := by decide +kernel
theorem dL_law_1902 : decode cL_law 1902 = .ok (.iconst 0, 1) := by decide +kernel
theorem dL_law_1903 : decode cL_law 1903 = .ok (.ireturn, 1) := by decide +kernel
theorem dL_law_1904 : decode cL_law 1904 = .ok (.iload 5, 2) := by decide +kernel
theorem dL_law_1906 : decode cL_law 1906 = .ok (.ifCond .ne 14, 3) := by decide +kernel
theorem dL_law_1909 : decode cL_law 1909 = .ok (.aload_n 3, 1) := by decide +kernel
theorem dL_law_1910 : decode cL_law 1910 = .ok (.iconst 0, 1) := by decide +kernel
theorem dL_law_1911 : decode cL_law 1911 = .ok (.laload, 1) := by decide +kernel
theorem dL_law_1912 : decode cL_law 1912 = .ok (.lload 6, 2) := by decide +kernel
theorem dL_law_1914 : decode cL_law 1914 = .ok (.lcmp, 1) := by decide +kernel
theorem dL_law_1915 : decode cL_law 1915 = .ok (.ifCond .eq 5, 3) := by decide +kernel
theorem dL_law_1918 : decode cL_law 1918 = .ok (.iconst 0, 1) := by decide +kernel
theorem dL_law_1919 : decode cL_law 1919 = .ok (.ireturn, 1) := by decide +kernel
theorem dL_law_1920 : decode cL_law 1920 = .ok (.goto 3, 3) := by decide +kernel
theorem dL_law_1923 : decode cL_law 1923 = .ok (.iinc 4 7, 3) := by decide +kernel
theorem dL_law_1926 : decode cL_law 1926 = .ok (.goto (-1903), 3) := by decide +kernel
theorem dL_law_1929 : decode cL_law 1929 = .ok (.iconst 1, 1) := by decide +kernel
theorem dL_law_1930 : decode cL_law 1930 = .ok (.ireturn, 1) := by decide +kernel
end
