section
-- ===== PART A: goes FIRST, ahead of the names: the tables' words, and 'selects' of the private methods out of them =====
/-- a private method of a class that the tables say can be made, by its rows of tables_1 -/
def lw_okq (q : MethodName × Nat) : Prop := (q.1.cls ≠ "java/lang/invoke/MethodHandle" ∧ q.1.cls ≠ "java/lang/invoke/VarHandle") ∧ Cond.instantiable q.1.cls q.2 ∈ tables_1 ∧ Cond.privateMethod q.1 ∈ tables_1 ∧ Cond.instanceMethod q.1 ∈ tables_1
theorem lw_p0 : lw_okq (⟨"ThingsThrown", "found", "(I)I"⟩, 13) := ⟨⟨by decide +kernel, by decide +kernel⟩, List.mem_of_getElem? (i := 14) (by decide +kernel), List.mem_of_getElem? (i := 197) (by decide +kernel), List.mem_of_getElem? (i := 198) (by decide +kernel)⟩
theorem lw_p1 : lw_okq (⟨"ThingsThrown", "refusalOfPlace", "(II)I"⟩, 13) := ⟨⟨by decide +kernel, by decide +kernel⟩, List.mem_of_getElem? (i := 14) (by decide +kernel), List.mem_of_getElem? (i := 215) (by decide +kernel), List.mem_of_getElem? (i := 216) (by decide +kernel)⟩
theorem lw_p2 : lw_okq (⟨"ThingsThrown", "refusalOfRow", "(I)I"⟩, 13) := ⟨⟨by decide +kernel, by decide +kernel⟩, List.mem_of_getElem? (i := 14) (by decide +kernel), List.mem_of_getElem? (i := 219) (by decide +kernel), List.mem_of_getElem? (i := 220) (by decide +kernel)⟩
theorem lw_p3 : lw_okq (⟨"ThingsThrown", "tell", "(I)I"⟩, 13) := ⟨⟨by decide +kernel, by decide +kernel⟩, List.mem_of_getElem? (i := 14) (by decide +kernel), List.mem_of_getElem? (i := 231) (by decide +kernel), List.mem_of_getElem? (i := 232) (by decide +kernel)⟩
theorem lw_p4 : lw_okq (⟨"ThingsThrown", "refusalOfText", "(I)I"⟩, 13) := ⟨⟨by decide +kernel, by decide +kernel⟩, List.mem_of_getElem? (i := 14) (by decide +kernel), List.mem_of_getElem? (i := 269) (by decide +kernel), List.mem_of_getElem? (i := 270) (by decide +kernel)⟩
theorem lw_p5 : lw_okq (⟨"ThingsThrown$Telling", "isFreeFigure", "(I)Z"⟩, 2) := ⟨⟨by decide +kernel, by decide +kernel⟩, List.mem_of_getElem? (i := 24) (by decide +kernel), List.mem_of_getElem? (i := 290) (by decide +kernel), List.mem_of_getElem? (i := 291) (by decide +kernel)⟩
theorem lw_p6 : lw_okq (⟨"ThingsThrown", "isThing", "(I)Z"⟩, 13) := ⟨⟨by decide +kernel, by decide +kernel⟩, List.mem_of_getElem? (i := 14) (by decide +kernel), List.mem_of_getElem? (i := 325) (by decide +kernel), List.mem_of_getElem? (i := 326) (by decide +kernel)⟩
theorem lw_p7 : lw_okq (⟨"ThingsThrown", "ofThing", "(II)I"⟩, 13) := ⟨⟨by decide +kernel, by decide +kernel⟩, List.mem_of_getElem? (i := 14) (by decide +kernel), List.mem_of_getElem? (i := 329) (by decide +kernel), List.mem_of_getElem? (i := 330) (by decide +kernel)⟩
theorem lw_p8 : lw_okq (⟨"ThingsThrown", "enterThrow", "(I)V"⟩, 13) := ⟨⟨by decide +kernel, by decide +kernel⟩, List.mem_of_getElem? (i := 14) (by decide +kernel), List.mem_of_getElem? (i := 393) (by decide +kernel), List.mem_of_getElem? (i := 394) (by decide +kernel)⟩
theorem lw_p9 : lw_okq (⟨"ThingsThrown", "skyNow", "()I"⟩, 13) := ⟨⟨by decide +kernel, by decide +kernel⟩, List.mem_of_getElem? (i := 14) (by decide +kernel), List.mem_of_getElem? (i := 417) (by decide +kernel), List.mem_of_getElem? (i := 418) (by decide +kernel)⟩
theorem lw_p10 : lw_okq (⟨"ThingsThrown", "enterRest", "()V"⟩, 13) := ⟨⟨by decide +kernel, by decide +kernel⟩, List.mem_of_getElem? (i := 14) (by decide +kernel), List.mem_of_getElem? (i := 426) (by decide +kernel), List.mem_of_getElem? (i := 427) (by decide +kernel)⟩
theorem lw_p11 : lw_okq (⟨"ThingsThrown", "enterExchange", "(II)V"⟩, 13) := ⟨⟨by decide +kernel, by decide +kernel⟩, List.mem_of_getElem? (i := 14) (by decide +kernel), List.mem_of_getElem? (i := 435) (by decide +kernel), List.mem_of_getElem? (i := 436) (by decide +kernel)⟩
theorem lw_p12 : lw_okq (⟨"ThingsThrown", "refusalOfThrows", "(III)I"⟩, 13) := ⟨⟨by decide +kernel, by decide +kernel⟩, List.mem_of_getElem? (i := 14) (by decide +kernel), List.mem_of_getElem? (i := 484) (by decide +kernel), List.mem_of_getElem? (i := 485) (by decide +kernel)⟩
theorem lw_p13 : lw_okq (⟨"ThingsThrown$Outlook", "comesToDues", "(II)Z"⟩, 4) := ⟨⟨by decide +kernel, by decide +kernel⟩, List.mem_of_getElem? (i := 92) (by decide +kernel), List.mem_of_getElem? (i := 512) (by decide +kernel), List.mem_of_getElem? (i := 513) (by decide +kernel)⟩
theorem lw_p14 : lw_okq (⟨"ThingsThrown$Outlook", "leadsTo", "(IIII)Z"⟩, 4) := ⟨⟨by decide +kernel, by decide +kernel⟩, List.mem_of_getElem? (i := 92) (by decide +kernel), List.mem_of_getElem? (i := 536) (by decide +kernel), List.mem_of_getElem? (i := 537) (by decide +kernel)⟩
theorem lw_p15 : lw_okq (⟨"ThingsThrown$Outlook", "comesToSky", "(II)Z"⟩, 4) := ⟨⟨by decide +kernel, by decide +kernel⟩, List.mem_of_getElem? (i := 92) (by decide +kernel), List.mem_of_getElem? (i := 540) (by decide +kernel), List.mem_of_getElem? (i := 541) (by decide +kernel)⟩
def lw_privs_1 : List (MethodName × Nat) := [(⟨"ThingsThrown", "found", "(I)I"⟩, 13), (⟨"ThingsThrown", "refusalOfPlace", "(II)I"⟩, 13), (⟨"ThingsThrown", "refusalOfRow", "(I)I"⟩, 13), (⟨"ThingsThrown", "tell", "(I)I"⟩, 13), (⟨"ThingsThrown", "refusalOfText", "(I)I"⟩, 13), (⟨"ThingsThrown$Telling", "isFreeFigure", "(I)Z"⟩, 2), (⟨"ThingsThrown", "isThing", "(I)Z"⟩, 13), (⟨"ThingsThrown", "ofThing", "(II)I"⟩, 13), (⟨"ThingsThrown", "enterThrow", "(I)V"⟩, 13), (⟨"ThingsThrown", "skyNow", "()I"⟩, 13), (⟨"ThingsThrown", "enterRest", "()V"⟩, 13), (⟨"ThingsThrown", "enterExchange", "(II)V"⟩, 13), (⟨"ThingsThrown", "refusalOfThrows", "(III)I"⟩, 13), (⟨"ThingsThrown$Outlook", "comesToDues", "(II)Z"⟩, 4), (⟨"ThingsThrown$Outlook", "leadsTo", "(IIII)Z"⟩, 4), (⟨"ThingsThrown$Outlook", "comesToSky", "(II)Z"⟩, 4)]
theorem lw_r1 : ∀ q ∈ lw_privs_1, lw_okq q := List.forall_mem_cons.mpr ⟨lw_p0, List.forall_mem_cons.mpr ⟨lw_p1, List.forall_mem_cons.mpr ⟨lw_p2, List.forall_mem_cons.mpr ⟨lw_p3, List.forall_mem_cons.mpr ⟨lw_p4, List.forall_mem_cons.mpr ⟨lw_p5, List.forall_mem_cons.mpr ⟨lw_p6, List.forall_mem_cons.mpr ⟨lw_p7, List.forall_mem_cons.mpr ⟨lw_p8, List.forall_mem_cons.mpr ⟨lw_p9, List.forall_mem_cons.mpr ⟨lw_p10, List.forall_mem_cons.mpr ⟨lw_p11, List.forall_mem_cons.mpr ⟨lw_p12, List.forall_mem_cons.mpr ⟨lw_p13, List.forall_mem_cons.mpr ⟨lw_p14, List.forall_mem_cons.mpr ⟨lw_p15, fun _ h => absurd h List.not_mem_nil⟩⟩⟩⟩⟩⟩⟩⟩⟩⟩⟩⟩⟩⟩⟩⟩
theorem lw_p16 : lw_okq (⟨"ThingsThrown$Outlook", "waysTo", "(III)J"⟩, 4) := ⟨⟨by decide +kernel, by decide +kernel⟩, List.mem_of_getElem? (i := 92) (by decide +kernel), List.mem_of_getElem? (i := 554) (by decide +kernel), List.mem_of_getElem? (i := 555) (by decide +kernel)⟩
theorem lw_p17 : lw_okq (⟨"ThingsThrown", "tellRatio", "(JJ)I"⟩, 13) := ⟨⟨by decide +kernel, by decide +kernel⟩, List.mem_of_getElem? (i := 14) (by decide +kernel), List.mem_of_getElem? (i := 558) (by decide +kernel), List.mem_of_getElem? (i := 559) (by decide +kernel)⟩
theorem lw_p18 : lw_okq (⟨"ThingsThrown", "refusalOfPairs", "(II)I"⟩, 13) := ⟨⟨by decide +kernel, by decide +kernel⟩, List.mem_of_getElem? (i := 14) (by decide +kernel), List.mem_of_getElem? (i := 577) (by decide +kernel), List.mem_of_getElem? (i := 578) (by decide +kernel)⟩
theorem lw_p19 : lw_okq (⟨"ThingsThrown$Outlook", "bestFrom", "(II)I"⟩, 4) := ⟨⟨by decide +kernel, by decide +kernel⟩, List.mem_of_getElem? (i := 92) (by decide +kernel), List.mem_of_getElem? (i := 609) (by decide +kernel), List.mem_of_getElem? (i := 610) (by decide +kernel)⟩
theorem lw_p20 : lw_okq (⟨"ThingsThrown", "refusalOfChances", "(II)I"⟩, 13) := ⟨⟨by decide +kernel, by decide +kernel⟩, List.mem_of_getElem? (i := 14) (by decide +kernel), List.mem_of_getElem? (i := 625) (by decide +kernel), List.mem_of_getElem? (i := 626) (by decide +kernel)⟩
theorem lw_p21 : lw_okq (⟨"ThingsThrown$Chances", "weightFrom", "(ILThingsThrown$Sheet;IIZ)J"⟩, 1) := ⟨⟨by decide +kernel, by decide +kernel⟩, List.mem_of_getElem? (i := 114) (by decide +kernel), List.mem_of_getElem? (i := 633) (by decide +kernel), List.mem_of_getElem? (i := 634) (by decide +kernel)⟩
theorem lw_p22 : lw_okq (⟨"ThingsThrown", "enterByLot", "(I)V"⟩, 13) := ⟨⟨by decide +kernel, by decide +kernel⟩, List.mem_of_getElem? (i := 14) (by decide +kernel), List.mem_of_getElem? (i := 661) (by decide +kernel), List.mem_of_getElem? (i := 662) (by decide +kernel)⟩
theorem lw_p23 : lw_okq (⟨"ThingsThrown", "enterThrowFrom", "(I)V"⟩, 13) := ⟨⟨by decide +kernel, by decide +kernel⟩, List.mem_of_getElem? (i := 14) (by decide +kernel), List.mem_of_getElem? (i := 665) (by decide +kernel), List.mem_of_getElem? (i := 666) (by decide +kernel)⟩
theorem lw_p24 : lw_okq (⟨"ThingsThrown", "skiesKept", "()I"⟩, 13) := ⟨⟨by decide +kernel, by decide +kernel⟩, List.mem_of_getElem? (i := 14) (by decide +kernel), List.mem_of_getElem? (i := 698) (by decide +kernel), List.mem_of_getElem? (i := 699) (by decide +kernel)⟩
theorem lw_p25 : lw_okq (⟨"ThingsThrownModel", "found", "(I)I"⟩, 17) := ⟨⟨by decide +kernel, by decide +kernel⟩, List.mem_of_getElem? (i := 720) (by decide +kernel), List.mem_of_getElem? (i := 789) (by decide +kernel), List.mem_of_getElem? (i := 790) (by decide +kernel)⟩
theorem lw_p26 : lw_okq (⟨"ThingsThrownModel", "wrongPlace", "(II)I"⟩, 17) := ⟨⟨by decide +kernel, by decide +kernel⟩, List.mem_of_getElem? (i := 720) (by decide +kernel), List.mem_of_getElem? (i := 797) (by decide +kernel), List.mem_of_getElem? (i := 798) (by decide +kernel)⟩
theorem lw_p27 : lw_okq (⟨"ThingsThrownModel", "tell", "(I)I"⟩, 17) := ⟨⟨by decide +kernel, by decide +kernel⟩, List.mem_of_getElem? (i := 720) (by decide +kernel), List.mem_of_getElem? (i := 801) (by decide +kernel), List.mem_of_getElem? (i := 802) (by decide +kernel)⟩
theorem lw_p28 : lw_okq (⟨"ThingsThrownModel", "isPart", "(III)Z"⟩, 17) := ⟨⟨by decide +kernel, by decide +kernel⟩, List.mem_of_getElem? (i := 720) (by decide +kernel), List.mem_of_getElem? (i := 817) (by decide +kernel), List.mem_of_getElem? (i := 818) (by decide +kernel)⟩
theorem lw_p29 : lw_okq (⟨"ThingsThrownModel", "readText", "(I)I"⟩, 17) := ⟨⟨by decide +kernel, by decide +kernel⟩, List.mem_of_getElem? (i := 720) (by decide +kernel), List.mem_of_getElem? (i := 840) (by decide +kernel), List.mem_of_getElem? (i := 841) (by decide +kernel)⟩
theorem lw_p30 : lw_okq (⟨"ThingsThrownModel", "byteAt", "(II)I"⟩, 17) := ⟨⟨by decide +kernel, by decide +kernel⟩, List.mem_of_getElem? (i := 720) (by decide +kernel), List.mem_of_getElem? (i := 844) (by decide +kernel), List.mem_of_getElem? (i := 845) (by decide +kernel)⟩
theorem lw_p31 : lw_okq (⟨"ThingsThrownModel", "isDueRead", "(I)Z"⟩, 17) := ⟨⟨by decide +kernel, by decide +kernel⟩, List.mem_of_getElem? (i := 720) (by decide +kernel), List.mem_of_getElem? (i := 851) (by decide +kernel), List.mem_of_getElem? (i := 852) (by decide +kernel)⟩
def lw_privs_2 : List (MethodName × Nat) := [(⟨"ThingsThrown$Outlook", "waysTo", "(III)J"⟩, 4), (⟨"ThingsThrown", "tellRatio", "(JJ)I"⟩, 13), (⟨"ThingsThrown", "refusalOfPairs", "(II)I"⟩, 13), (⟨"ThingsThrown$Outlook", "bestFrom", "(II)I"⟩, 4), (⟨"ThingsThrown", "refusalOfChances", "(II)I"⟩, 13), (⟨"ThingsThrown$Chances", "weightFrom", "(ILThingsThrown$Sheet;IIZ)J"⟩, 1), (⟨"ThingsThrown", "enterByLot", "(I)V"⟩, 13), (⟨"ThingsThrown", "enterThrowFrom", "(I)V"⟩, 13), (⟨"ThingsThrown", "skiesKept", "()I"⟩, 13), (⟨"ThingsThrownModel", "found", "(I)I"⟩, 17), (⟨"ThingsThrownModel", "wrongPlace", "(II)I"⟩, 17), (⟨"ThingsThrownModel", "tell", "(I)I"⟩, 17), (⟨"ThingsThrownModel", "isPart", "(III)Z"⟩, 17), (⟨"ThingsThrownModel", "readText", "(I)I"⟩, 17), (⟨"ThingsThrownModel", "byteAt", "(II)I"⟩, 17), (⟨"ThingsThrownModel", "isDueRead", "(I)Z"⟩, 17)]
theorem lw_r2 : ∀ q ∈ lw_privs_2, lw_okq q := List.forall_mem_cons.mpr ⟨lw_p16, List.forall_mem_cons.mpr ⟨lw_p17, List.forall_mem_cons.mpr ⟨lw_p18, List.forall_mem_cons.mpr ⟨lw_p19, List.forall_mem_cons.mpr ⟨lw_p20, List.forall_mem_cons.mpr ⟨lw_p21, List.forall_mem_cons.mpr ⟨lw_p22, List.forall_mem_cons.mpr ⟨lw_p23, List.forall_mem_cons.mpr ⟨lw_p24, List.forall_mem_cons.mpr ⟨lw_p25, List.forall_mem_cons.mpr ⟨lw_p26, List.forall_mem_cons.mpr ⟨lw_p27, List.forall_mem_cons.mpr ⟨lw_p28, List.forall_mem_cons.mpr ⟨lw_p29, List.forall_mem_cons.mpr ⟨lw_p30, List.forall_mem_cons.mpr ⟨lw_p31, fun _ h => absurd h List.not_mem_nil⟩⟩⟩⟩⟩⟩⟩⟩⟩⟩⟩⟩⟩⟩⟩⟩
theorem lw_p32 : lw_okq (⟨"ThingsThrownModel", "isThing", "(I)Z"⟩, 17) := ⟨⟨by decide +kernel, by decide +kernel⟩, List.mem_of_getElem? (i := 720) (by decide +kernel), List.mem_of_getElem? (i := 863) (by decide +kernel), List.mem_of_getElem? (i := 864) (by decide +kernel)⟩
theorem lw_p33 : lw_okq (⟨"ThingsThrownModel", "torchesAhead", "(I)I"⟩, 17) := ⟨⟨by decide +kernel, by decide +kernel⟩, List.mem_of_getElem? (i := 720) (by decide +kernel), List.mem_of_getElem? (i := 880) (by decide +kernel), List.mem_of_getElem? (i := 881) (by decide +kernel)⟩
theorem lw_p34 : lw_okq (⟨"ThingsThrownModel", "thingsBehind", "(I)I"⟩, 17) := ⟨⟨by decide +kernel, by decide +kernel⟩, List.mem_of_getElem? (i := 720) (by decide +kernel), List.mem_of_getElem? (i := 884) (by decide +kernel), List.mem_of_getElem? (i := 885) (by decide +kernel)⟩
theorem lw_p35 : lw_okq (⟨"ThingsThrownModel", "mayAt", "(II)Z"⟩, 17) := ⟨⟨by decide +kernel, by decide +kernel⟩, List.mem_of_getElem? (i := 720) (by decide +kernel), List.mem_of_getElem? (i := 895) (by decide +kernel), List.mem_of_getElem? (i := 896) (by decide +kernel)⟩
theorem lw_p36 : lw_okq (⟨"ThingsThrownModel", "dueAt", "(I)I"⟩, 17) := ⟨⟨by decide +kernel, by decide +kernel⟩, List.mem_of_getElem? (i := 720) (by decide +kernel), List.mem_of_getElem? (i := 899) (by decide +kernel), List.mem_of_getElem? (i := 900) (by decide +kernel)⟩
theorem lw_p37 : lw_okq (⟨"ThingsThrownModel", "skyAt", "(I)I"⟩, 17) := ⟨⟨by decide +kernel, by decide +kernel⟩, List.mem_of_getElem? (i := 720) (by decide +kernel), List.mem_of_getElem? (i := 903) (by decide +kernel), List.mem_of_getElem? (i := 904) (by decide +kernel)⟩
theorem lw_p38 : lw_okq (⟨"ThingsThrownModel", "remember", "()V"⟩, 17) := ⟨⟨by decide +kernel, by decide +kernel⟩, List.mem_of_getElem? (i := 720) (by decide +kernel), List.mem_of_getElem? (i := 910) (by decide +kernel), List.mem_of_getElem? (i := 911) (by decide +kernel)⟩
theorem lw_p39 : lw_okq (⟨"ThingsThrownModel", "copyRow", "(III)V"⟩, 17) := ⟨⟨by decide +kernel, by decide +kernel⟩, List.mem_of_getElem? (i := 720) (by decide +kernel), List.mem_of_getElem? (i := 914) (by decide +kernel), List.mem_of_getElem? (i := 915) (by decide +kernel)⟩
theorem lw_p40 : lw_okq (⟨"ThingsThrownModel", "tossAt", "(II)V"⟩, 17) := ⟨⟨by decide +kernel, by decide +kernel⟩, List.mem_of_getElem? (i := 720) (by decide +kernel), List.mem_of_getElem? (i := 918) (by decide +kernel), List.mem_of_getElem? (i := 919) (by decide +kernel)⟩
theorem lw_p41 : lw_okq (⟨"ThingsThrownModel", "later", "(I)V"⟩, 17) := ⟨⟨by decide +kernel, by decide +kernel⟩, List.mem_of_getElem? (i := 720) (by decide +kernel), List.mem_of_getElem? (i := 922) (by decide +kernel), List.mem_of_getElem? (i := 923) (by decide +kernel)⟩
theorem lw_p42 : lw_okq (⟨"ThingsThrownModel", "swap", "(II)V"⟩, 17) := ⟨⟨by decide +kernel, by decide +kernel⟩, List.mem_of_getElem? (i := 720) (by decide +kernel), List.mem_of_getElem? (i := 934) (by decide +kernel), List.mem_of_getElem? (i := 935) (by decide +kernel)⟩
theorem lw_p43 : lw_okq (⟨"ThingsThrownModel", "heightsAt", "(I)I"⟩, 17) := ⟨⟨by decide +kernel, by decide +kernel⟩, List.mem_of_getElem? (i := 720) (by decide +kernel), List.mem_of_getElem? (i := 958) (by decide +kernel), List.mem_of_getElem? (i := 959) (by decide +kernel)⟩
theorem lw_p44 : lw_okq (⟨"ThingsThrownModel", "wrongHeights", "(III)I"⟩, 17) := ⟨⟨by decide +kernel, by decide +kernel⟩, List.mem_of_getElem? (i := 720) (by decide +kernel), List.mem_of_getElem? (i := 966) (by decide +kernel), List.mem_of_getElem? (i := 967) (by decide +kernel)⟩
theorem lw_p45 : lw_okq (⟨"ThingsThrownModel", "beginTry", "()V"⟩, 17) := ⟨⟨by decide +kernel, by decide +kernel⟩, List.mem_of_getElem? (i := 720) (by decide +kernel), List.mem_of_getElem? (i := 970) (by decide +kernel), List.mem_of_getElem? (i := 971) (by decide +kernel)⟩
theorem lw_p46 : lw_okq (⟨"ThingsThrownModel", "restsAt", "(I)V"⟩, 17) := ⟨⟨by decide +kernel, by decide +kernel⟩, List.mem_of_getElem? (i := 720) (by decide +kernel), List.mem_of_getElem? (i := 974) (by decide +kernel), List.mem_of_getElem? (i := 975) (by decide +kernel)⟩
theorem lw_p47 : lw_okq (⟨"ThingsThrownModel", "isAsNow", "()Z"⟩, 17) := ⟨⟨by decide +kernel, by decide +kernel⟩, List.mem_of_getElem? (i := 720) (by decide +kernel), List.mem_of_getElem? (i := 982) (by decide +kernel), List.mem_of_getElem? (i := 983) (by decide +kernel)⟩
def lw_privs_3 : List (MethodName × Nat) := [(⟨"ThingsThrownModel", "isThing", "(I)Z"⟩, 17), (⟨"ThingsThrownModel", "torchesAhead", "(I)I"⟩, 17), (⟨"ThingsThrownModel", "thingsBehind", "(I)I"⟩, 17), (⟨"ThingsThrownModel", "mayAt", "(II)Z"⟩, 17), (⟨"ThingsThrownModel", "dueAt", "(I)I"⟩, 17), (⟨"ThingsThrownModel", "skyAt", "(I)I"⟩, 17), (⟨"ThingsThrownModel", "remember", "()V"⟩, 17), (⟨"ThingsThrownModel", "copyRow", "(III)V"⟩, 17), (⟨"ThingsThrownModel", "tossAt", "(II)V"⟩, 17), (⟨"ThingsThrownModel", "later", "(I)V"⟩, 17), (⟨"ThingsThrownModel", "swap", "(II)V"⟩, 17), (⟨"ThingsThrownModel", "heightsAt", "(I)I"⟩, 17), (⟨"ThingsThrownModel", "wrongHeights", "(III)I"⟩, 17), (⟨"ThingsThrownModel", "beginTry", "()V"⟩, 17), (⟨"ThingsThrownModel", "restsAt", "(I)V"⟩, 17), (⟨"ThingsThrownModel", "isAsNow", "()Z"⟩, 17)]
theorem lw_r3 : ∀ q ∈ lw_privs_3, lw_okq q := List.forall_mem_cons.mpr ⟨lw_p32, List.forall_mem_cons.mpr ⟨lw_p33, List.forall_mem_cons.mpr ⟨lw_p34, List.forall_mem_cons.mpr ⟨lw_p35, List.forall_mem_cons.mpr ⟨lw_p36, List.forall_mem_cons.mpr ⟨lw_p37, List.forall_mem_cons.mpr ⟨lw_p38, List.forall_mem_cons.mpr ⟨lw_p39, List.forall_mem_cons.mpr ⟨lw_p40, List.forall_mem_cons.mpr ⟨lw_p41, List.forall_mem_cons.mpr ⟨lw_p42, List.forall_mem_cons.mpr ⟨lw_p43, List.forall_mem_cons.mpr ⟨lw_p44, List.forall_mem_cons.mpr ⟨lw_p45, List.forall_mem_cons.mpr ⟨lw_p46, List.forall_mem_cons.mpr ⟨lw_p47, fun _ h => absurd h List.not_mem_nil⟩⟩⟩⟩⟩⟩⟩⟩⟩⟩⟩⟩⟩⟩⟩⟩
theorem lw_p48 : lw_okq (⟨"ThingsThrownModel", "canThrow", "(II)Z"⟩, 17) := ⟨⟨by decide +kernel, by decide +kernel⟩, List.mem_of_getElem? (i := 720) (by decide +kernel), List.mem_of_getElem? (i := 997) (by decide +kernel), List.mem_of_getElem? (i := 998) (by decide +kernel)⟩
theorem lw_p49 : lw_okq (⟨"ThingsThrownModel", "comesTo", "(I)Z"⟩, 17) := ⟨⟨by decide +kernel, by decide +kernel⟩, List.mem_of_getElem? (i := 720) (by decide +kernel), List.mem_of_getElem? (i := 1004) (by decide +kernel), List.mem_of_getElem? (i := 1005) (by decide +kernel)⟩
theorem lw_p50 : lw_okq (⟨"ThingsThrownModel", "wrongPairs", "(II)I"⟩, 17) := ⟨⟨by decide +kernel, by decide +kernel⟩, List.mem_of_getElem? (i := 720) (by decide +kernel), List.mem_of_getElem? (i := 1020) (by decide +kernel), List.mem_of_getElem? (i := 1021) (by decide +kernel)⟩
theorem lw_p51 : lw_okq (⟨"ThingsThrownModel", "kindsBy", "(I)I"⟩, 17) := ⟨⟨by decide +kernel, by decide +kernel⟩, List.mem_of_getElem? (i := 720) (by decide +kernel), List.mem_of_getElem? (i := 1024) (by decide +kernel), List.mem_of_getElem? (i := 1025) (by decide +kernel)⟩
theorem lw_p52 : lw_okq (⟨"ThingsThrownModel", "worthOf", "(III)I"⟩, 17) := ⟨⟨by decide +kernel, by decide +kernel⟩, List.mem_of_getElem? (i := 720) (by decide +kernel), List.mem_of_getElem? (i := 1042) (by decide +kernel), List.mem_of_getElem? (i := 1043) (by decide +kernel)⟩
theorem lw_p53 : lw_okq (⟨"ThingsThrownModel", "sumAt", "(I)I"⟩, 17) := ⟨⟨by decide +kernel, by decide +kernel⟩, List.mem_of_getElem? (i := 720) (by decide +kernel), List.mem_of_getElem? (i := 1047) (by decide +kernel), List.mem_of_getElem? (i := 1048) (by decide +kernel)⟩
theorem lw_p54 : lw_okq (⟨"ThingsThrownModel", "bestOf", "(II)I"⟩, 17) := ⟨⟨by decide +kernel, by decide +kernel⟩, List.mem_of_getElem? (i := 720) (by decide +kernel), List.mem_of_getElem? (i := 1051) (by decide +kernel), List.mem_of_getElem? (i := 1052) (by decide +kernel)⟩
theorem lw_p55 : lw_okq (⟨"ThingsThrownModel", "chances", "(IIZ)I"⟩, 17) := ⟨⟨by decide +kernel, by decide +kernel⟩, List.mem_of_getElem? (i := 720) (by decide +kernel), List.mem_of_getElem? (i := 1059) (by decide +kernel), List.mem_of_getElem? (i := 1060) (by decide +kernel)⟩
theorem lw_p56 : lw_okq (⟨"ThingsThrownModel", "wrongChance", "(II)I"⟩, 17) := ⟨⟨by decide +kernel, by decide +kernel⟩, List.mem_of_getElem? (i := 720) (by decide +kernel), List.mem_of_getElem? (i := 1063) (by decide +kernel), List.mem_of_getElem? (i := 1064) (by decide +kernel)⟩
theorem lw_p57 : lw_okq (⟨"ThingsThrownModel", "madeWith", "(II)I"⟩, 17) := ⟨⟨by decide +kernel, by decide +kernel⟩, List.mem_of_getElem? (i := 720) (by decide +kernel), List.mem_of_getElem? (i := 1068) (by decide +kernel), List.mem_of_getElem? (i := 1069) (by decide +kernel)⟩
theorem lw_p58 : lw_okq (⟨"ThingsThrownModel", "chanceOf", "(III)J"⟩, 17) := ⟨⟨by decide +kernel, by decide +kernel⟩, List.mem_of_getElem? (i := 720) (by decide +kernel), List.mem_of_getElem? (i := 1072) (by decide +kernel), List.mem_of_getElem? (i := 1073) (by decide +kernel)⟩
theorem lw_p59 : lw_okq (⟨"ThingsThrownModel", "tellPart", "(JJ)V"⟩, 17) := ⟨⟨by decide +kernel, by decide +kernel⟩, List.mem_of_getElem? (i := 720) (by decide +kernel), List.mem_of_getElem? (i := 1076) (by decide +kernel), List.mem_of_getElem? (i := 1077) (by decide +kernel)⟩
theorem lw_p60 : lw_okq (⟨"ThingsThrownModel", "doByLot", "(I)V"⟩, 17) := ⟨⟨by decide +kernel, by decide +kernel⟩, List.mem_of_getElem? (i := 720) (by decide +kernel), List.mem_of_getElem? (i := 1091) (by decide +kernel), List.mem_of_getElem? (i := 1092) (by decide +kernel)⟩
theorem lw_p61 : lw_okq (⟨"ThingsThrownModel", "throwsMade", "()I"⟩, 17) := ⟨⟨by decide +kernel, by decide +kernel⟩, List.mem_of_getElem? (i := 720) (by decide +kernel), List.mem_of_getElem? (i := 1111) (by decide +kernel), List.mem_of_getElem? (i := 1112) (by decide +kernel)⟩
theorem lw_p62 : lw_okq (⟨"ThingsThrownModel", "ofKinds", "(II)I"⟩, 17) := ⟨⟨by decide +kernel, by decide +kernel⟩, List.mem_of_getElem? (i := 720) (by decide +kernel), List.mem_of_getElem? (i := 1115) (by decide +kernel), List.mem_of_getElem? (i := 1116) (by decide +kernel)⟩
def lw_privs_4 : List (MethodName × Nat) := [(⟨"ThingsThrownModel", "canThrow", "(II)Z"⟩, 17), (⟨"ThingsThrownModel", "comesTo", "(I)Z"⟩, 17), (⟨"ThingsThrownModel", "wrongPairs", "(II)I"⟩, 17), (⟨"ThingsThrownModel", "kindsBy", "(I)I"⟩, 17), (⟨"ThingsThrownModel", "worthOf", "(III)I"⟩, 17), (⟨"ThingsThrownModel", "sumAt", "(I)I"⟩, 17), (⟨"ThingsThrownModel", "bestOf", "(II)I"⟩, 17), (⟨"ThingsThrownModel", "chances", "(IIZ)I"⟩, 17), (⟨"ThingsThrownModel", "wrongChance", "(II)I"⟩, 17), (⟨"ThingsThrownModel", "madeWith", "(II)I"⟩, 17), (⟨"ThingsThrownModel", "chanceOf", "(III)J"⟩, 17), (⟨"ThingsThrownModel", "tellPart", "(JJ)V"⟩, 17), (⟨"ThingsThrownModel", "doByLot", "(I)V"⟩, 17), (⟨"ThingsThrownModel", "throwsMade", "()I"⟩, 17), (⟨"ThingsThrownModel", "ofKinds", "(II)I"⟩, 17)]
theorem lw_r4 : ∀ q ∈ lw_privs_4, lw_okq q := List.forall_mem_cons.mpr ⟨lw_p48, List.forall_mem_cons.mpr ⟨lw_p49, List.forall_mem_cons.mpr ⟨lw_p50, List.forall_mem_cons.mpr ⟨lw_p51, List.forall_mem_cons.mpr ⟨lw_p52, List.forall_mem_cons.mpr ⟨lw_p53, List.forall_mem_cons.mpr ⟨lw_p54, List.forall_mem_cons.mpr ⟨lw_p55, List.forall_mem_cons.mpr ⟨lw_p56, List.forall_mem_cons.mpr ⟨lw_p57, List.forall_mem_cons.mpr ⟨lw_p58, List.forall_mem_cons.mpr ⟨lw_p59, List.forall_mem_cons.mpr ⟨lw_p60, List.forall_mem_cons.mpr ⟨lw_p61, List.forall_mem_cons.mpr ⟨lw_p62, fun _ h => absurd h List.not_mem_nil⟩⟩⟩⟩⟩⟩⟩⟩⟩⟩⟩⟩⟩⟩⟩
def lw_privs : List (MethodName × Nat) := lw_privs_1 ++ (lw_privs_2 ++ (lw_privs_3 ++ (lw_privs_4)))
def lw_tbl : List Cond := k2_sels lw_privs ++ tables_1
theorem lw_privs_ok : ∀ q ∈ lw_privs, lw_okq q := by
  show ∀ q ∈ lw_privs_1 ++ (lw_privs_2 ++ (lw_privs_3 ++ (lw_privs_4))), lw_okq q
  exact List.forall_mem_append.mpr ⟨lw_r1, List.forall_mem_append.mpr ⟨lw_r2, List.forall_mem_append.mpr ⟨lw_r3, lw_r4⟩⟩⟩
-- ===== end of PART A; then your names; then what follows =====
/-! THE CLAIM OUT OF ONE WALK OF THE LAW'S BODY. Your part is whole_start (and what it stands on); all else here is the same for every law, but numbers. -/
def R_law : String := "ThingsThrownLaw"
def lw_P (b : Addr) (xs : List Int32) (args : Array Value) (s : State) : Prop := args = #[.ref b] ∧ s.IntsAt b xs ∧ xs.length ≤ 3072 ∧ (Jvm.Cond.and given_1 narrow_1).before args s = true
def lw_Q (_ : Array Value) (s : State) (o : Outcome) (t : State) : Prop := o = .returned (some (.int 1)) ∧ Framed s o t [] 600000 7302250
def lw_Z (below : List Frame) (a : Array Value) (s : State) : State → Prop := fun t => ∃ o, t.status = .running ∧ Ended t below o ∧ lw_Q a s o t
/-- the law's own end, with 1 on the stack, nothing written that was there before, its room as the claim has it -/
theorem lw_ret {p : Program} {l : Launch} {e : Env} {s : State} {m : MethodId} {below : List Frame} {meth : Method} {c : Code} {b : Nat} (hx : p.tables.exec = Jvm.exec) (hb : c.code = code) (hr : meth.sig.returnType = ret) (hlocks : meth.locks = false) {pc : Nat} {H : Heap} {ls : Array Slot} (hdg : decode code pc = .ok (.ireturn, 1)) : W p l e room_1 s m #[Value.ref b] below meth c H [] 600000 7302250 (lw_Z below #[Value.ref b] s) (F0 m pc ls [.int 1]) := by
  intro T hT X
  obtain ⟨fs, hret, hrun, hended, hW, hframe⟩ := X.leave (v := some (.int 1)) (hlocks := hlocks) (fun h => by rw [hr] at h; cases h)
  have hmeth' : T.vm.method? m = some meth := X.method'
  refine ⟨T.setFrames fs, ?_, .returned (some (.int 1)), hrun, hended, rfl, ⟨_, rfl⟩, hW, hframe⟩
  jvm_step X.here [X.here.top, hx, hb, hdg, hmeth', hr, ret, narrow_b1]
  (try refine ⟨rfl, ?_⟩); (try refine ⟨rfl, ?_⟩)
  first | (intro acts; rw [hret _ acts rfl rfl rfl]) | rw [hret _ _ rfl rfl rfl]
  exact Steps.refl _
/-- what holds at the law's entry: the machine, the code, the tables' words (any of lw_tbl by 'hts w (by decide +kernel)'), the script of L ints xs at the cell b, what the Statement gives of the start (any of its parts by flat_of_before) -/
def lw_At (p : Program) (s : State) (m : MethodId) (meth : Method) (c : Code) (b L : Nat) (xs : Nat → Int32) : Prop :=
  p.tables.exec = Jvm.exec ∧ c.code = code ∧ meth.sig.returnType = ret ∧ c.maxLocals = 4 ∧ s.vm.findClass R_law = some m.cls ∧ (∀ w ∈ lw_tbl, w.before #[Value.ref b] s = true) ∧ va_X b L xs s s.heap ∧ b < s.heap.size ∧ meth.locks = false ∧ (Jvm.Cond.and given_1 narrow_1).before #[Value.ref b] s = true
end
section
/-! ===== an abstract machine: cells by handles, a code table, what one instruction asks ===== -/
abbrev Am_C : Type := (FieldType × vp_A) ⊕ (Nat × List Value)
abbrev Am_X : Type := va_G × (FieldType → ClassId) × (Nat → Nat) × (Nat → Nat)
def am_v (K : Am_X) : Value → Value
  | .ref k => .ref (K.2.2.1 k)
  | .retAddr k => .ref (K.2.2.2 k)
  | .int x => .int x
  | .long x => .long x
  | .float x => .float x
  | .double x => .double x
  | .null => .null
def am_vA (K : Am_X) (a : vp_A) : vp_A := (a.1, match a.2 with
  | .inr (.inr (.inr (.inr f))) => .inr (.inr (.inr (.inr (fun j => (f j).map K.2.2.1))))
  | .inl f => .inl f
  | .inr (.inl f) => .inr (.inl f)
  | .inr (.inr (.inl f)) => .inr (.inr (.inl f))
  | .inr (.inr (.inr (.inl f))) => .inr (.inr (.inr (.inl f))))
def am_c (K : Am_X) : Am_C → va_E
  | .inl (ty, a) => .inl (K.2.1 ty, am_vA K a)
  | .inr (ci, fs) => .inr (ci, fs.map (am_v K))
def am_w (K : Am_X) (hp : List Am_C) : va_W := hp.mapIdx (fun k c => (K.2.2.1 k, am_c K c))
theorem am_w_at {K : Am_X} {hp : List Am_C} {k : Nat} {c : Am_C} (h : hp[k]? = some c) : (am_w K hp)[k]? = some (K.2.2.1 k, am_c K c) := by
  simp [am_w, List.getElem?_mapIdx, h]
theorem am_w_inv {K : Am_X} {hp : List Am_C} {k : Nat} {q : Nat × va_E} (h : (am_w K hp)[k]? = some q) : ∃ c, hp[k]? = some c ∧ q = (K.2.2.1 k, am_c K c) := by
  simp only [am_w, List.getElem?_mapIdx, Option.map_eq_some_iff] at h
  obtain ⟨c, h1, h2⟩ := h
  exact ⟨c, h1, h2.symm⟩
theorem am_w_set {K : Am_X} {hp : List Am_C} {k : Nat} {c : Am_C} : (am_w K hp).set k (K.2.2.1 k, am_c K c) = am_w K (hp.set k c) := by
  apply List.ext_getElem?
  intro j
  by_cases hj : k = j
  · subst hj
    by_cases hl : k < hp.length
    · simp [am_w, List.getElem?_mapIdx, hl]
    · simp [am_w, List.getElem?_mapIdx, hl]
  · simp [am_w, List.getElem?_mapIdx, hj]
theorem am_w_app {K : Am_X} {hp : List Am_C} {c : Am_C} : am_w K (hp ++ [c]) = am_w K hp ++ [(K.2.2.1 hp.length, am_c K c)] := by
  simp [am_w, List.mapIdx_append]
theorem am_cat (K : Am_X) (v : Value) : (am_v K v).category = v.category := by cases v <;> rfl
theorem am_cats (K : Am_X) (st : List Value) : ((st.map (am_v K)).map fun v => v.category) = st.map fun v => v.category := by
  rw [List.map_map]
  apply List.map_congr_left
  intro v _
  exact am_cat K v
/-! locals -/
def am_R (K : Am_X) (ls : Array Slot) (nL : Nat) (loc : List (Option Value)) : Prop := ls.size = nL ∧ lv_wf ls ∧ loc.length = nL ∧ ∀ (i : Nat) (v : Value), loc[i]? = some (some v) → ls[i]? = some (.val (am_v K v))
def am_all (K : Am_X) (loc : List (Option Value)) : List (Nat × Value) := (List.range loc.length).filterMap (fun i => match loc[i]? with
  | some (some v) => some (i, am_v K v)
  | _ => none)
theorem am_all_in {K : Am_X} {loc : List (Option Value)} {i : Nat} {v : Value} (h : loc[i]? = some (some v)) : (i, am_v K v) ∈ am_all K loc := by
  refine List.mem_filterMap.mpr ⟨i, List.mem_range.mpr (List.getElem?_eq_some_iff.mp h).1, ?_⟩
  simp [h]
theorem am_R_has {K : Am_X} {ls : Array Slot} {nL : Nat} {loc : List (Option Value)} (h : am_R K ls nL loc) : lv_has ls nL (am_all K loc) := by
  refine ⟨h.1, h.2.1, fun q hq => ?_⟩
  obtain ⟨i, -, hi⟩ := List.mem_filterMap.mp hq
  split at hi
  · next v hv =>
    cases hi
    exact h.2.2.2 i v hv
  · cases hi
def am_clr (loc : List (Option Value)) (i : Nat) : List (Option Value) := match i with
  | 0 => loc
  | j + 1 => match loc[j]? with
    | some (some (.long _)) => loc.set j none
    | some (some (.double _)) => loc.set j none
    | _ => loc
theorem am_clr_len (loc : List (Option Value)) (i : Nat) : (am_clr loc i).length = loc.length := by
  unfold am_clr
  split
  · rfl
  · split <;> simp
theorem am_clr_at {loc : List (Option Value)} {i j : Nat} {v : Value} (h : (am_clr loc i)[j]? = some (some v)) : loc[j]? = some (some v) ∧ ¬ (j + 1 = i ∧ v.category = 2) := by
  unfold am_clr at h
  split at h
  · exact ⟨h, fun q => by omega⟩
  · next n =>
    split at h
    · next x hx =>
      by_cases hj : n = j
      · subst hj
        rw [List.getElem?_set] at h
        split at h
        · split at h <;> cases h
        · next q => exact absurd rfl q
      · rw [List.getElem?_set_ne hj] at h
        exact ⟨h, fun q => by omega⟩
    · next x hx =>
      by_cases hj : n = j
      · subst hj
        rw [List.getElem?_set] at h
        split at h
        · split at h <;> cases h
        · next q => exact absurd rfl q
      · rw [List.getElem?_set_ne hj] at h
        exact ⟨h, fun q => by omega⟩
    · next hn1 hn2 =>
      refine ⟨h, fun q => ?_⟩
      have hj : j = n := by omega
      subst hj
      cases v with
      | long x => exact hn1 x h
      | double x => exact hn2 x h
      | _ => exact absurd q.2 (by simp [Value.category])
def am_s1 (loc : List (Option Value)) (i : Nat) (v : Value) : List (Option Value) := (am_clr loc i).set i (some v)
def am_s2 (loc : List (Option Value)) (i : Nat) (v : Value) : List (Option Value) := ((am_clr loc i).set i (some v)).set (i + 1) none
theorem am_R_s1 {K : Am_X} {ls ls' : Array Slot} {nL i : Nat} {loc : List (Option Value)} {v : Value} (h : am_R K ls nL loc) (h2 : lv_has ls' nL ((i, am_v K v) :: (am_all K loc).filter (fun q => !(q.1 == i) && !(q.1 + 1 == i && q.2.category == 2)))) : am_R K ls' nL (am_s1 loc i v) := by
  refine ⟨h2.1, h2.2.1, by rw [am_s1, List.length_set, am_clr_len]; exact h.2.2.1, fun j w hj => ?_⟩
  unfold am_s1 at hj
  by_cases hij : i = j
  · subst hij
    have hl := (List.getElem?_eq_some_iff.mp hj).1
    rw [List.length_set] at hl
    rw [List.getElem?_set_self hl] at hj
    cases hj
    exact h2.2.2 (i, am_v K v) List.mem_cons_self
  · rw [List.getElem?_set_ne hij] at hj
    obtain ⟨h3, h4⟩ := am_clr_at hj
    refine h2.2.2 (j, am_v K w) (List.mem_cons_of_mem _ (List.mem_filter.mpr ⟨am_all_in h3, ?_⟩))
    have e1 : (j == i) = false := by simp; omega
    simp only [e1, am_cat, Bool.not_false, Bool.true_and, Bool.not_eq_true', Bool.and_eq_false_iff, beq_eq_false_iff_ne, ne_eq]
    by_cases h5 : j + 1 = i
    · exact Or.inr (fun h6 => h4 ⟨h5, h6⟩)
    · exact Or.inl h5
theorem am_R_s2 {K : Am_X} {ls ls' : Array Slot} {nL i : Nat} {loc : List (Option Value)} {v : Value} (h : am_R K ls nL loc) (h2 : lv_has ls' nL ((i, am_v K v) :: (am_all K loc).filter (fun q => !(q.1 == i) && (!(q.1 == i + 1) && !(q.1 + 1 == i && q.2.category == 2))))) : am_R K ls' nL (am_s2 loc i v) := by
  refine ⟨h2.1, h2.2.1, by rw [am_s2, List.length_set, List.length_set, am_clr_len]; exact h.2.2.1, fun j w hj => ?_⟩
  unfold am_s2 at hj
  by_cases hi1 : i + 1 = j
  · subst hi1
    rw [List.getElem?_set] at hj
    split at hj
    · split at hj
      · cases hj
      · cases hj
    · next q => exact absurd rfl q
  rw [List.getElem?_set_ne hi1] at hj
  by_cases hij : i = j
  · subst hij
    have hl := (List.getElem?_eq_some_iff.mp hj).1
    rw [List.length_set] at hl
    rw [List.getElem?_set_self hl] at hj
    cases hj
    exact h2.2.2 (i, am_v K v) List.mem_cons_self
  · rw [List.getElem?_set_ne hij] at hj
    obtain ⟨h3, h4⟩ := am_clr_at hj
    refine h2.2.2 (j, am_v K w) (List.mem_cons_of_mem _ (List.mem_filter.mpr ⟨am_all_in h3, ?_⟩))
    have e1 : (j == i) = false := by simp; omega
    have e2 : (j == i + 1) = false := by simp; omega
    simp only [e1, e2, am_cat, Bool.not_false, Bool.true_and, Bool.not_eq_true', Bool.and_eq_false_iff, beq_eq_false_iff_ne, ne_eq]
    by_cases h5 : j + 1 = i
    · exact Or.inr (fun h6 => h4 ⟨h5, h6⟩)
    · exact Or.inl h5
def am_l0 : List Value → List (Option Value)
  | [] => []
  | v :: vs => match v with
    | .long x => some (.long x) :: none :: am_l0 vs
    | .double x => some (.double x) :: none :: am_l0 vs
    | v => some v :: am_l0 vs
theorem am_l0_len (K : Am_X) : ∀ vs : List Value, (am_l0 vs).length = (lg_sl (vs.map (am_v K))).length
  | [] => rfl
  | v :: vs => by
    have ih := am_l0_len K vs
    cases v <;> simp_all [am_l0, lg_sl, am_v, Value.category] <;> omega
theorem am_l0_in (K : Am_X) : ∀ (vs : List Value) (o i : Nat) (v : Value), (am_l0 vs)[i]? = some (some v) → (o + i, am_v K v) ∈ lv_args o (vs.map (am_v K))
  | [], o, i, v, h => by simp [am_l0] at h
  | x :: vs, o, i, v, h => by
    have ih := am_l0_in K vs
    cases x with
    | long z =>
      match i, h with
      | 0, h => simp [am_l0] at h; subst h; simp [lv_args]
      | 1, h => simp [am_l0] at h
      | i + 2, h =>
        have h1 : (am_l0 vs)[i]? = some (some v) := by simpa [am_l0] using h
        have h2 := ih (o + 2) i v h1
        have e : o + 2 + i = o + (i + 2) := by omega
        rw [e] at h2
        exact List.mem_cons_of_mem _ h2
    | double z =>
      match i, h with
      | 0, h => simp [am_l0] at h; subst h; simp [lv_args]
      | 1, h => simp [am_l0] at h
      | i + 2, h =>
        have h1 : (am_l0 vs)[i]? = some (some v) := by simpa [am_l0] using h
        have h2 := ih (o + 2) i v h1
        have e : o + 2 + i = o + (i + 2) := by omega
        rw [e] at h2
        exact List.mem_cons_of_mem _ h2
    | _ =>
      match i, h with
      | 0, h => simp [am_l0] at h; subst h; simp [lv_args]
      | i + 1, h =>
        have h1 : (am_l0 vs)[i]? = some (some v) := by simpa [am_l0] using h
        have h2 := ih (o + 1) i v h1
        have e : o + 1 + i = o + (i + 1) := by omega
        rw [e] at h2
        exact List.mem_cons_of_mem _ h2
def am_loc (n : Nat) (vs : List Value) : List (Option Value) := am_l0 vs ++ List.replicate (n - (am_l0 vs).length) none
theorem am_R_entry (K : Am_X) (vs : List Value) {n : Nat} (h : (am_l0 vs).length ≤ n) : am_R K ((lg_sl (vs.map (am_v K)) ++ List.replicate (n - (lg_sl (vs.map (am_v K))).length) Slot.unset).toArray) n (am_loc n vs) := by
  have h0 : (lg_sl (vs.map (am_v K))).length ≤ n := by rw [← am_l0_len]; exact h
  have h1 := lv_entry (vs.map (am_v K)) h0
  refine ⟨h1.1, h1.2.1, by simp [am_loc]; omega, fun i v hi => ?_⟩
  unfold am_loc at hi
  by_cases hl : i < (am_l0 vs).length
  · rw [List.getElem?_append_left hl] at hi
    have h2 := am_l0_in K vs 0 i v hi
    rw [Nat.zero_add] at h2
    exact h1.2.2 (i, am_v K v) h2
  · rw [List.getElem?_append_right (by omega), List.getElem?_replicate] at hi
    split at hi <;> cases hi
end
section
/-! ===== what one instruction asks of what follows ===== -/
abbrev Am_E : Type := Nat × Instr × Nat × Nat × Nat
abbrev Am_K : Type := Nat → List (Option Value) → List Value → List Am_C → Nat → Nat → Prop
def am_lk : List Am_E → Nat → Option (Instr × Nat × Nat × Nat)
  | [], _ => none
  | e :: t, pc => bif Nat.beq e.1 pc then some e.2 else am_lk t pc
def am_i1 (st : List Value) (q : Int32 → List Value → Prop) : Prop := match st with
  | .int x :: r => q x r
  | _ => False
def am_i2 (st : List Value) (q : Int32 → Int32 → List Value → Prop) : Prop := match st with
  | .int y :: .int x :: r => q x y r
  | _ => False
def am_j1 (st : List Value) (q : Int64 → List Value → Prop) : Prop := match st with
  | .long x :: r => q x r
  | _ => False
def am_j2 (st : List Value) (q : Int64 → Int64 → List Value → Prop) : Prop := match st with
  | .long y :: .long x :: r => q x y r
  | _ => False
def am_r1 (st : List Value) (q : Nat → List Value → Prop) : Prop := match st with
  | .ref x :: r => q x r
  | _ => False
theorem am_i1e {st : List Value} {q : Int32 → List Value → Prop} (h : am_i1 st q) : ∃ x r, st = .int x :: r ∧ q x r := by
  unfold am_i1 at h
  split at h
  · exact ⟨_, _, rfl, h⟩
  · exact h.elim
theorem am_i2e {st : List Value} {q : Int32 → Int32 → List Value → Prop} (h : am_i2 st q) : ∃ x y r, st = .int y :: .int x :: r ∧ q x y r := by
  unfold am_i2 at h
  split at h
  · exact ⟨_, _, _, rfl, h⟩
  · exact h.elim
theorem am_j1e {st : List Value} {q : Int64 → List Value → Prop} (h : am_j1 st q) : ∃ x r, st = .long x :: r ∧ q x r := by
  unfold am_j1 at h
  split at h
  · exact ⟨_, _, rfl, h⟩
  · exact h.elim
theorem am_j2e {st : List Value} {q : Int64 → Int64 → List Value → Prop} (h : am_j2 st q) : ∃ x y r, st = .long y :: .long x :: r ∧ q x y r := by
  unfold am_j2 at h
  split at h
  · exact ⟨_, _, _, rfl, h⟩
  · exact h.elim
theorem am_r1e {st : List Value} {q : Nat → List Value → Prop} (h : am_r1 st q) : ∃ x r, st = .ref x :: r ∧ q x r := by
  unfold am_r1 at h
  split at h
  · exact ⟨_, _, rfl, h⟩
  · exact h.elim
/-- a number out of the table's two places -/
def am_n (b a : Nat) (q : Int32 → Prop) : Prop := match b with
  | 0 => q (nI a)
  | _ => q (-nI a)
def am_nv (b a : Nat) : Int32 := match b with
  | 0 => nI a
  | _ => -nI a
theorem am_ne {b a : Nat} {q : Int32 → Prop} (h : am_n b a q) : q (am_nv b a) := by
  unfold am_n at h
  unfold am_nv
  split at h <;> exact h
def am_ld (loc : List (Option Value)) (i : Nat) (q : Value → Prop) : Prop := match loc[i]? with
  | some (some v) => q v
  | _ => False
theorem am_lde {loc : List (Option Value)} {i : Nat} {q : Value → Prop} (h : am_ld loc i q) : ∃ v, loc[i]? = some (some v) ∧ q v := by
  unfold am_ld at h
  split at h
  · next v hv => exact ⟨v, hv, h⟩
  · exact h.elim
def am_isI : Value → Bool
  | .int _ => true
  | _ => false
def am_isL : Value → Bool
  | .long _ => true
  | _ => false
def am_isR : Value → Bool
  | .ref _ => true
  | .retAddr _ => true
  | _ => false
theorem am_isIe {v : Value} (h : am_isI v = true) : ∃ x, v = .int x := by cases v <;> first | exact ⟨_, rfl⟩ | cases h
theorem am_isLe {v : Value} (h : am_isL v = true) : ∃ x, v = .long x := by cases v <;> first | exact ⟨_, rfl⟩ | cases h
theorem am_isRe {v : Value} (K : Am_X) (h : am_isR v = true) : ∃ x, am_v K v = .ref x := by cases v <;> first | exact ⟨_, rfl⟩ | cases h
/-- the array of ints, of bytes, of references at a handle -/
def am_ai (hp : List Am_C) (h : Nat) (q : Nat → (Nat → Int32) → Prop) : Prop := match hp[h]? with
  | some (.inl (.int, n, .inl f)) => bif Nat.ble n 4096 then q n f else False
  | _ => False
def am_ab (hp : List Am_C) (h : Nat) (q : Nat → (Nat → Int32) → Prop) : Prop := match hp[h]? with
  | some (.inl (.byte, n, .inl f)) => bif Nat.ble n 4096 then q n f else False
  | _ => False
def am_ar (hp : List Am_C) (h : Nat) (q : String → Nat → (Nat → Option Nat) → Prop) : Prop := match hp[h]? with
  | some (.inl (.object C, n, .inr (.inr (.inr (.inr f))))) => bif Nat.ble n 4096 then q C n f else False
  | _ => False
def am_ob (hp : List Am_C) (h : Nat) (q : Nat → List Value → Prop) : Prop := match hp[h]? with
  | some (.inr (ci, fs)) => q ci fs
  | _ => False
theorem am_aie {hp : List Am_C} {h : Nat} {q : Nat → (Nat → Int32) → Prop} (e : am_ai hp h q) : ∃ n f, hp[h]? = some (.inl (.int, n, .inl f)) ∧ n ≤ 4096 ∧ q n f := by
  unfold am_ai at e
  split at e
  · next n f hv =>
    cases hb : Nat.ble n 4096 with
    | true => rw [hb] at e; exact ⟨n, f, hv, Nat.le_of_ble_eq_true hb, e⟩
    | false => rw [hb] at e; exact e.elim
  · exact e.elim
theorem am_abe {hp : List Am_C} {h : Nat} {q : Nat → (Nat → Int32) → Prop} (e : am_ab hp h q) : ∃ n f, hp[h]? = some (.inl (.byte, n, .inl f)) ∧ n ≤ 4096 ∧ q n f := by
  unfold am_ab at e
  split at e
  · next n f hv =>
    cases hb : Nat.ble n 4096 with
    | true => rw [hb] at e; exact ⟨n, f, hv, Nat.le_of_ble_eq_true hb, e⟩
    | false => rw [hb] at e; exact e.elim
  · exact e.elim
theorem am_are {hp : List Am_C} {h : Nat} {q : String → Nat → (Nat → Option Nat) → Prop} (e : am_ar hp h q) : ∃ C n f, hp[h]? = some (.inl (.object C, n, .inr (.inr (.inr (.inr f))))) ∧ n ≤ 4096 ∧ q C n f := by
  unfold am_ar at e
  split at e
  · next C n f hv =>
    cases hb : Nat.ble n 4096 with
    | true => rw [hb] at e; exact ⟨C, n, f, hv, Nat.le_of_ble_eq_true hb, e⟩
    | false => rw [hb] at e; exact e.elim
  · exact e.elim
theorem am_obe {hp : List Am_C} {h : Nat} {q : Nat → List Value → Prop} (e : am_ob hp h q) : ∃ ci fs, hp[h]? = some (.inr (ci, fs)) ∧ q ci fs := by
  unfold am_ob at e
  split at e
  · next ci fs hv => exact ⟨ci, fs, hv, e⟩
  · exact e.elim
def am_t (b : Bool) (q : Prop) : Prop := bif b then q else False
theorem am_te {b : Bool} {q : Prop} (h : am_t b q) : b = true ∧ q := by
  unfold am_t at h
  cases b with
  | true => exact ⟨rfl, h⟩
  | false => exact h.elim
/-- a value fits a field -/
def am_fit : FieldType → Value → Bool
  | .int, .int _ => true
  | .long, .long _ => true
  | .object _, .ref _ => true
  | .array _, .ref _ => true
  | _, _ => false
theorem am_fite {K : Am_X} {ty : FieldType} {v : Value} (h : am_fit ty v = true) : narrow ty (am_v K v) = am_v K v ∧ fits ty (am_v K v) = true := by
  cases ty <;> cases v <;> first | exact ⟨rfl, rfl⟩ | cases h
/-- the static tables: numbers 0 to 3 -/
def am_tab (t : Nat) : Nat × (Nat → Int32) := match t with
  | 0 => (6, fun k => match k with | 0 => nI 98 | 1 => nI 99 | 2 => nI 102 | 3 => nI 108 | 4 => nI 116 | _ => nI 97)
  | 1 => (6, fun k => match k with | 0 => nI 0 | 1 => nI 0 | 2 => nI 0 | 3 => nI 0 | 4 => nI 1 | _ => nI 3)
  | 2 => (6, fun k => match k with | 0 => nI 1 | 1 => nI 1 | 2 => nI 1 | 3 => nI 1 | 4 => nI 3 | _ => nI 1)
  | _ => (6, fun k => match k with | 0 => nI 7 | 1 => nI 7 | 2 => nI 7 | 3 => nI 7 | 4 => nI 7 | _ => nI 4)
def am_tabN (t : Nat) : String := match t with
  | 0 => "LETTERS"
  | 1 => "ABOVE"
  | 2 => "LOWEST"
  | _ => "HIGHEST"
def am_sw (x : Int32) (pc : Nat) (q : Nat → Prop) : Int → List Int → Prop
  | _, [] => True
  | lo, o :: os => (x.toInt = lo → q ((pc : Int) + o).toNat) ∧ am_sw x pc q (lo + 1) os
def am_lsw (x : Int32) (pc : Nat) (q : Nat → Prop) (dflt : Int) : List (Int × Int) → Prop
  | [] => q ((pc : Int) + dflt).toNat
  | (a, o) :: r => (x.toInt = a → q ((pc : Int) + o).toNat) ∧ (¬ x.toInt = a → am_lsw x pc q dflt r)
def am_rok (rt : Option FieldType) (v : Int32) : Prop := match rt with
  | some .int => True
  | some .boolean => v = nI 0 ∨ v = nI 1
  | _ => False
end
section
/-! ===== names, by program (wip/whole/gen.py) out of the Statement ===== -/
def am_T0 : u_T := fun k => match k with
  | 0 => ("ThingsThrown", "rows", "[LThingsThrown$Sheet;", true)
  | 1 => ("ThingsThrown", "texts", "[LThingsThrown$Sheet;", true)
  | 2 => ("ThingsThrown", "telling", "LThingsThrown$Telling;", true)
  | 3 => ("ThingsThrown", "troupe", "LThingsThrown$Troupe;", true)
  | 4 => ("ThingsThrown", "evening", "LThingsThrown$Evening;", true)
  | 5 => ("ThingsThrown", "kept", "[LThingsThrown$Evening;", true)
  | 6 => ("ThingsThrown", "outlook", "LThingsThrown$Outlook;", true)
  | 7 => ("ThingsThrown", "chances", "LThingsThrown$Chances;", true)
  | 8 => ("ThingsThrown", "findingsMade", "[I", true)
  | 9 => ("ThingsThrown", "latestFinding", "I", false)
  | 10 => ("ThingsThrown", "askedLast", "I", false)
  | 11 => ("ThingsThrown", "upperLast", "J", false)
  | _ => ("ThingsThrown", "lowerLast", "J", false)
def am_Y0 : Nat → FieldType := fun k => match k with
  | 0 => .array (.object "ThingsThrown$Sheet")
  | 1 => .array (.object "ThingsThrown$Sheet")
  | 2 => .object "ThingsThrown$Telling"
  | 3 => .object "ThingsThrown$Troupe"
  | 4 => .object "ThingsThrown$Evening"
  | 5 => .array (.object "ThingsThrown$Evening")
  | 6 => .object "ThingsThrown$Outlook"
  | 7 => .object "ThingsThrown$Chances"
  | 8 => .array .int
  | 9 => .int
  | 10 => .int
  | 11 => .long
  | _ => .long
def am_T1 : u_T := fun k => match k with
  | _ => ("ThingsThrown$Chances", "troupe", "LThingsThrown$Troupe;", true)
def am_Y1 : Nat → FieldType := fun k => match k with
  | _ => .object "ThingsThrown$Troupe"
def am_T2 : u_T := fun k => match k with
  | 0 => ("ThingsThrown$Evening", "dues", "I", false)
  | 1 => ("ThingsThrown$Evening", "beat", "I", false)
  | 2 => ("ThingsThrown$Evening", "deeds", "I", false)
  | 3 => ("ThingsThrown$Evening", "timesThrown", "[I", true)
  | 4 => ("ThingsThrown$Evening", "duesAhead", "[I", true)
  | 5 => ("ThingsThrown$Evening", "thingThrown", "[I", true)
  | _ => ("ThingsThrown$Evening", "beatsTaken", "[I", true)
def am_Y2 : Nat → FieldType := fun k => match k with
  | 0 => .int
  | 1 => .int
  | 2 => .int
  | 3 => .array .int
  | 4 => .array .int
  | 5 => .array .int
  | _ => .array .int
def am_T3 : u_T := fun k => match k with
  | 0 => ("ThingsThrown$Outlook", "troupe", "LThingsThrown$Troupe;", true)
  | 1 => ("ThingsThrown$Outlook", "duesThen", "I", false)
  | 2 => ("ThingsThrown$Outlook", "path", "[I", true)
  | _ => ("ThingsThrown$Outlook", "firstHeights", "I", false)
def am_Y3 : Nat → FieldType := fun k => match k with
  | 0 => .object "ThingsThrown$Troupe"
  | 1 => .int
  | 2 => .array .int
  | _ => .int
def am_T4 : u_T := fun k => match k with
  | 0 => ("ThingsThrown$Sheet", "cells", "[I", true)
  | _ => ("ThingsThrown$Sheet", "size", "I", false)
def am_Y4 : Nat → FieldType := fun k => match k with
  | 0 => .array .int
  | _ => .int
def am_T5 : u_T := fun k => match k with
  | 0 => ("ThingsThrown$Telling", "troupe", "LThingsThrown$Troupe;", true)
  | _ => ("ThingsThrown$Telling", "dues", "I", false)
def am_Y5 : Nat → FieldType := fun k => match k with
  | 0 => .object "ThingsThrown$Troupe"
  | _ => .int
def am_T6 : u_T := fun k => match k with
  | 0 => ("ThingsThrown$Troupe", "size", "I", false)
  | _ => ("ThingsThrown$Troupe", "kind", "[I", true)
def am_Y6 : Nat → FieldType := fun k => match k with
  | 0 => .int
  | _ => .array .int
def am_T7 : u_T := fun k => match k with
  | 0 => ("ThingsThrownModel", "w", "[I", true)
  | 1 => ("ThingsThrownModel", "kind", "[I", true)
  | 2 => ("ThingsThrownModel", "things", "I", false)
  | 3 => ("ThingsThrownModel", "keptDeeds", "[I", true)
  | 4 => ("ThingsThrownModel", "rows", "[I", true)
  | 5 => ("ThingsThrownModel", "sizes", "[I", true)
  | 6 => ("ThingsThrownModel", "texts", "[B", true)
  | 7 => ("ThingsThrownModel", "lengths", "[I", true)
  | 8 => ("ThingsThrownModel", "asked", "I", false)
  | 9 => ("ThingsThrownModel", "upper", "J", false)
  | 10 => ("ThingsThrownModel", "lower", "J", false)
  | 11 => ("ThingsThrownModel", "finding", "I", false)
  | 12 => ("ThingsThrownModel", "findings", "[I", true)
  | 13 => ("ThingsThrownModel", "readKind", "[I", true)
  | 14 => ("ThingsThrownModel", "readDue", "[I", true)
  | 15 => ("ThingsThrownModel", "readMany", "I", false)
  | _ => ("ThingsThrownModel", "worth", "[I", true)
def am_Y7 : Nat → FieldType := fun k => match k with
  | 0 => .array .int
  | 1 => .array .int
  | 2 => .int
  | 3 => .array .int
  | 4 => .array .int
  | 5 => .array .int
  | 6 => .array .byte
  | 7 => .array .int
  | 8 => .int
  | 9 => .long
  | 10 => .long
  | 11 => .int
  | 12 => .array .int
  | 13 => .array .int
  | 14 => .array .int
  | 15 => .int
  | _ => .array .int
abbrev am_cl : List vw_C := [("ThingsThrown", am_T0, 13), ("ThingsThrown$Chances", am_T1, 1), ("ThingsThrown$Evening", am_T2, 7), ("ThingsThrown$Outlook", am_T3, 4), ("ThingsThrown$Sheet", am_T4, 2), ("ThingsThrown$Telling", am_T5, 2), ("ThingsThrown$Troupe", am_T6, 2), ("ThingsThrownModel", am_T7, 17)]
def am_Y : Nat → Nat → FieldType := fun c => match c with
  | 0 => am_Y0
  | 1 => am_Y1
  | 2 => am_Y2
  | 3 => am_Y3
  | 4 => am_Y4
  | 5 => am_Y5
  | 6 => am_Y6
  | _ => am_Y7
def am_F : Nat → Nat → Bool := fun c k => match c with
  | 0 => (am_T0 k).2.2.2
  | 1 => (am_T1 k).2.2.2
  | 2 => (am_T2 k).2.2.2
  | 3 => (am_T3 k).2.2.2
  | 4 => (am_T4 k).2.2.2
  | 5 => (am_T5 k).2.2.2
  | 6 => (am_T6 k).2.2.2
  | _ => (am_T7 k).2.2.2
def am_dv : Nat → List Value := fun c => match c with
  | 0 => [.null, .null, .null, .null, .null, .null, .null, .null, .null, .int 0, .int 0, .long 0, .long 0]
  | 1 => [.null]
  | 2 => [.int 0, .int 0, .int 0, .null, .null, .null, .null]
  | 3 => [.null, .int 0, .null, .int 0]
  | 4 => [.null, .int 0]
  | 5 => [.null, .int 0]
  | 6 => [.int 0, .null]
  | _ => [.null, .null, .int 0, .null, .null, .null, .null, .null, .int 0, .long 0, .long 0, .int 0, .null, .null, .null, .int 0, .null]
def am_own : Nat → String := fun c => match c with
  | 0 => "ThingsThrown"
  | 1 => "ThingsThrown$Chances"
  | 2 => "ThingsThrown$Evening"
  | 3 => "ThingsThrown$Outlook"
  | 4 => "ThingsThrown$Sheet"
  | 5 => "ThingsThrown$Telling"
  | 6 => "ThingsThrown$Troupe"
  | 7 => "ThingsThrownModel"
  | 8 => "ThingsThrown$Kinds"
  | 9 => "java/lang/Math"
  | 10 => "java/lang/Integer"
  | _ => "ThingsThrownLaw"
abbrev Am_M : Type := MethodName × ByteArray × Nat × Option FieldType × Nat
/-- the methods: name, bytes, locals, answer, the number of their class -/
def am_ml0 : List Am_M := [(⟨"ThingsThrown", "<init>", "()V"⟩, prog_1_method_1_code, 2, none, 0),
  (⟨"ThingsThrown$Telling", "<init>", "()V"⟩, prog_7_method_1_code, 1, none, 5),
  (⟨"ThingsThrown$Troupe", "<init>", "()V"⟩, prog_8_method_1_code, 1, none, 6),
  (⟨"ThingsThrown$Evening", "<init>", "()V"⟩, prog_3_method_1_code, 1, none, 2),
  (⟨"ThingsThrown$Outlook", "<init>", "(LThingsThrown$Troupe;)V"⟩, prog_5_method_1_code, 2, none, 3),
  (⟨"ThingsThrown$Chances", "<init>", "(LThingsThrown$Troupe;)V"⟩, prog_2_method_1_code, 2, none, 1),
  (⟨"ThingsThrown$Sheet", "<init>", "([I)V"⟩, prog_6_method_1_code, 2, none, 4),
  (⟨"ThingsThrown$Evening", "forget", "()V"⟩, prog_3_method_3_code, 1, none, 2),
  (⟨"ThingsThrown", "row", "(II)I"⟩, prog_1_method_2_code, 3, some .int, 0),
  (⟨"ThingsThrown", "isRow", "(I)Z"⟩, prog_1_method_41_code, 1, some .boolean, 0),
  (⟨"ThingsThrown", "found", "(I)I"⟩, prog_1_method_47_code, 2, some .int, 0),
  (⟨"ThingsThrown$Sheet", "begin", "(II)V"⟩, prog_6_method_2_code, 4, none, 4),
  (⟨"java/lang/Math", "min", "(II)I"⟩, prog_12_method_69_code, 2, some .int, 9),
  (⟨"java/lang/Math", "max", "(II)I"⟩, prog_12_method_65_code, 2, some .int, 9),
  (⟨"ThingsThrown", "lay", "(III)I"⟩, prog_1_method_3_code, 6, some .int, 0),
  (⟨"ThingsThrown", "refusalOfPlace", "(II)I"⟩, prog_1_method_49_code, 4, some .int, 0),
  (⟨"ThingsThrown", "refusalOfRow", "(I)I"⟩, prog_1_method_48_code, 2, some .int, 0),
  (⟨"ThingsThrown$Sheet", "isMissing", "()Z"⟩, prog_6_method_3_code, 1, some .boolean, 4),
  (⟨"ThingsThrown$Sheet", "has", "(I)Z"⟩, prog_6_method_4_code, 2, some .boolean, 4),
  (⟨"ThingsThrown", "tell", "(I)I"⟩, prog_1_method_54_code, 2, some .int, 0),
  (⟨"ThingsThrown", "at", "(II)I"⟩, prog_1_method_4_code, 4, some .int, 0),
  (⟨"ThingsThrown", "tear", "(I)I"⟩, prog_1_method_5_code, 3, some .int, 0),
  (⟨"ThingsThrown", "copy", "(IIIII)I"⟩, prog_1_method_6_code, 6, some .int, 0),
  (⟨"ThingsThrown$Sheet", "hasPart", "(II)Z"⟩, prog_6_method_5_code, 3, some .boolean, 4),
  (⟨"ThingsThrown", "mean", "(I)I"⟩, prog_1_method_7_code, 7, some .int, 0),
  (⟨"ThingsThrown", "text", "(II)I"⟩, prog_1_method_8_code, 3, some .int, 0),
  (⟨"ThingsThrown", "isText", "(I)Z"⟩, prog_1_method_42_code, 1, some .boolean, 0),
  (⟨"ThingsThrown", "put", "(III)I"⟩, prog_1_method_9_code, 6, some .int, 0),
  (⟨"ThingsThrown", "refusalOfText", "(I)I"⟩, prog_1_method_50_code, 2, some .int, 0),
  (⟨"ThingsThrown", "fault", "(I)I"⟩, prog_1_method_10_code, 3, some .int, 0)]
def am_ml1 : List Am_M := [(⟨"ThingsThrown$Telling", "read", "(LThingsThrown$Sheet;)I"⟩, prog_7_method_2_code, 4, some .int, 5),
  (⟨"ThingsThrown$Troupe", "begin", "()V"⟩, prog_8_method_5_code, 1, none, 6),
  (⟨"ThingsThrown$Kinds", "byLetter", "(I)I"⟩, prog_4_method_2_code, 2, some .int, 8),
  (⟨"ThingsThrown$Telling", "isFreeFigure", "(I)Z"⟩, prog_7_method_3_code, 3, some .boolean, 5),
  (⟨"ThingsThrown$Troupe", "sky", "(I)I"⟩, prog_8_method_8_code, 4, some .int, 6),
  (⟨"ThingsThrown$Troupe", "due", "(II)I"⟩, prog_8_method_2_code, 2, some .int, 6),
  (⟨"ThingsThrown$Troupe", "with", "(III)I"⟩, prog_8_method_3_code, 3, some .int, 6),
  (⟨"ThingsThrown$Troupe", "add", "(I)V"⟩, prog_8_method_6_code, 2, none, 6),
  (⟨"ThingsThrown", "things", "(I)I"⟩, prog_1_method_11_code, 4, some .int, 0),
  (⟨"ThingsThrown$Troupe", "takeFrom", "(LThingsThrown$Troupe;)V"⟩, prog_8_method_7_code, 2, none, 6),
  (⟨"ThingsThrown$Evening", "begin", "(I)V"⟩, prog_3_method_2_code, 3, none, 2),
  (⟨"ThingsThrown", "thing", "(II)I"⟩, prog_1_method_12_code, 3, some .int, 0),
  (⟨"ThingsThrown", "isThing", "(I)Z"⟩, prog_1_method_46_code, 2, some .boolean, 0),
  (⟨"ThingsThrown", "ofThing", "(II)I"⟩, prog_1_method_57_code, 3, some .int, 0),
  (⟨"ThingsThrown$Kinds", "heightsOf", "(I)I"⟩, prog_4_method_5_code, 1, some .int, 8),
  (⟨"ThingsThrown", "mark", "(II)I"⟩, prog_1_method_13_code, 4, some .int, 0),
  (⟨"ThingsThrown$Kinds", "isOf", "(II)Z"⟩, prog_4_method_3_code, 2, some .boolean, 8),
  (⟨"ThingsThrown$Kinds", "heightsLater", "(I)I"⟩, prog_4_method_6_code, 3, some .int, 8),
  (⟨"ThingsThrown$Kinds", "flight", "(II)I"⟩, prog_4_method_4_code, 2, some .int, 8),
  (⟨"ThingsThrown$Kinds", "heightsSooner", "(I)I"⟩, prog_4_method_7_code, 3, some .int, 8),
  (⟨"ThingsThrown$Troupe", "torchesAhead", "(II)I"⟩, prog_8_method_12_code, 5, some .int, 6),
  (⟨"ThingsThrown$Troupe", "thingsBehind", "(II)I"⟩, prog_8_method_13_code, 5, some .int, 6),
  (⟨"ThingsThrown", "toss", "(I)I"⟩, prog_1_method_14_code, 2, some .int, 0),
  (⟨"ThingsThrown", "isHeight", "(I)Z"⟩, prog_1_method_43_code, 1, some .boolean, 0),
  (⟨"ThingsThrown$Troupe", "mayGo", "(II)Z"⟩, prog_8_method_17_code, 4, some .boolean, 6),
  (⟨"ThingsThrown$Troupe", "dueNow", "(I)I"⟩, prog_8_method_9_code, 3, some .int, 6),
  (⟨"ThingsThrown$Troupe", "isFree", "(II)Z"⟩, prog_8_method_19_code, 2, some .boolean, 6),
  (⟨"ThingsThrown$Evening", "isFull", "()Z"⟩, prog_3_method_5_code, 1, some .boolean, 2),
  (⟨"ThingsThrown", "enterThrow", "(I)V"⟩, prog_1_method_61_code, 3, none, 0),
  (⟨"ThingsThrown$Troupe", "thrown", "(II)I"⟩, prog_8_method_20_code, 4, some .int, 6)]
def am_ml2 : List Am_M := [(⟨"ThingsThrown$Troupe", "later", "(II)I"⟩, prog_8_method_15_code, 3, some .int, 6),
  (⟨"ThingsThrown$Evening", "enter", "(III)V"⟩, prog_3_method_6_code, 4, none, 2),
  (⟨"ThingsThrown$Evening", "isForgotten", "()Z"⟩, prog_3_method_4_code, 1, some .boolean, 2),
  (⟨"ThingsThrown", "skyNow", "()I"⟩, prog_1_method_58_code, 1, some .int, 0),
  (⟨"ThingsThrown", "rest", "()I"⟩, prog_1_method_15_code, 1, some .int, 0),
  (⟨"ThingsThrown", "enterRest", "()V"⟩, prog_1_method_62_code, 1, none, 0),
  (⟨"ThingsThrown", "exchange", "(II)I"⟩, prog_1_method_16_code, 3, some .int, 0),
  (⟨"ThingsThrown", "enterExchange", "(II)V"⟩, prog_1_method_63_code, 3, none, 0),
  (⟨"ThingsThrown$Troupe", "exchanged", "(III)I"⟩, prog_8_method_4_code, 3, some .int, 6),
  (⟨"ThingsThrown", "undo", "(I)I"⟩, prog_1_method_17_code, 3, some .int, 0),
  (⟨"ThingsThrown$Evening", "takeBack", "(I)V"⟩, prog_3_method_7_code, 3, none, 2),
  (⟨"ThingsThrown", "keep", "(I)I"⟩, prog_1_method_18_code, 2, some .int, 0),
  (⟨"ThingsThrown", "isPlaceKept", "(I)Z"⟩, prog_1_method_45_code, 1, some .boolean, 0),
  (⟨"ThingsThrown$Evening", "takeFrom", "(LThingsThrown$Evening;)V"⟩, prog_3_method_9_code, 2, none, 2),
  (⟨"ThingsThrown", "on", "(I)I"⟩, prog_1_method_19_code, 2, some .int, 0),
  (⟨"ThingsThrown", "lands", "(II)I"⟩, prog_1_method_20_code, 3, some .int, 0),
  (⟨"ThingsThrown", "may", "()I"⟩, prog_1_method_21_code, 2, some .int, 0),
  (⟨"ThingsThrown$Troupe", "heightsNow", "(I)I"⟩, prog_8_method_18_code, 6, some .int, 6),
  (⟨"ThingsThrown", "run", "(I)I"⟩, prog_1_method_22_code, 4, some .int, 0),
  (⟨"ThingsThrown", "refusalOfThrows", "(III)I"⟩, prog_1_method_51_code, 7, some .int, 0),
  (⟨"ThingsThrown$Outlook", "throwsMade", "(ILThingsThrown$Sheet;)I"⟩, prog_5_method_2_code, 4, some .int, 3),
  (⟨"ThingsThrown$Troupe", "rested", "(I)I"⟩, prog_8_method_16_code, 2, some .int, 6),
  (⟨"ThingsThrown$Troupe", "restsAhead", "(I)I"⟩, prog_8_method_14_code, 4, some .int, 6),
  (⟨"ThingsThrown", "rounds", "(I)I"⟩, prog_1_method_23_code, 3, some .int, 0),
  (⟨"ThingsThrown$Outlook", "roundsBack", "(ILThingsThrown$Sheet;)I"⟩, prog_5_method_3_code, 5, some .int, 3),
  (⟨"ThingsThrown$Outlook", "comesToDues", "(II)Z"⟩, prog_5_method_4_code, 5, some .boolean, 3),
  (⟨"ThingsThrown", "fewest", "(II)I"⟩, prog_1_method_24_code, 4, some .int, 0),
  (⟨"ThingsThrown", "isSky", "(I)Z"⟩, prog_1_method_44_code, 1, some .boolean, 0),
  (⟨"ThingsThrown$Outlook", "fewestTo", "(II)I"⟩, prog_5_method_6_code, 4, some .int, 3),
  (⟨"java/lang/Integer", "bitCount", "(I)I"⟩, prog_11_method_49_code, 1, some .int, 10)]
def am_ml3 : List Am_M := [(⟨"ThingsThrown$Outlook", "leadsTo", "(IIII)Z"⟩, prog_5_method_7_code, 8, some .boolean, 3),
  (⟨"ThingsThrown$Outlook", "comesToSky", "(II)Z"⟩, prog_5_method_5_code, 6, some .boolean, 3),
  (⟨"ThingsThrown", "ways", "(I)I"⟩, prog_1_method_25_code, 2, some .int, 0),
  (⟨"ThingsThrown$Outlook", "waysBack", "(II)J"⟩, prog_5_method_8_code, 11, some .long, 3),
  (⟨"ThingsThrown$Outlook", "waysTo", "(III)J"⟩, prog_5_method_9_code, 9, some .long, 3),
  (⟨"ThingsThrown", "tellRatio", "(JJ)I"⟩, prog_1_method_55_code, 7, some .int, 0),
  (⟨"ThingsThrown", "sharedDivisor", "(JJ)J"⟩, prog_1_method_56_code, 11, some .long, 0),
  (⟨"ThingsThrown", "height", "(I)I"⟩, prog_1_method_26_code, 2, some .int, 0),
  (⟨"ThingsThrown$Outlook", "heightsTo", "(II)I"⟩, prog_5_method_10_code, 6, some .int, 3),
  (⟨"ThingsThrown", "kinds", "(II)I"⟩, prog_1_method_27_code, 4, some .int, 0),
  (⟨"ThingsThrown", "refusalOfPairs", "(II)I"⟩, prog_1_method_53_code, 7, some .int, 0),
  (⟨"ThingsThrown$Kinds", "fitting", "(LThingsThrown$Sheet;)I"⟩, prog_4_method_8_code, 3, some .int, 8),
  (⟨"ThingsThrown$Kinds", "fits", "(ILThingsThrown$Sheet;)Z"⟩, prog_4_method_9_code, 3, some .boolean, 8),
  (⟨"ThingsThrown", "next", "(II)I"⟩, prog_1_method_28_code, 6, some .int, 0),
  (⟨"ThingsThrown$Kinds", "heightToTry", "(I)I"⟩, prog_4_method_10_code, 3, some .int, 8),
  (⟨"ThingsThrown$Kinds", "greatestPart", "(II)I"⟩, prog_4_method_11_code, 4, some .int, 8),
  (⟨"ThingsThrown$Kinds", "alike", "(III)I"⟩, prog_4_method_12_code, 5, some .int, 8),
  (⟨"ThingsThrown", "duel", "(I)I"⟩, prog_1_method_29_code, 2, some .int, 0),
  (⟨"ThingsThrown$Outlook", "bestByTurns", "(II)I"⟩, prog_5_method_11_code, 3, some .int, 3),
  (⟨"ThingsThrown$Outlook", "bestFrom", "(II)I"⟩, prog_5_method_12_code, 9, some .int, 3),
  (⟨"ThingsThrown$Troupe", "dueTogether", "(I)I"⟩, prog_8_method_10_code, 4, some .int, 6),
  (⟨"ThingsThrown", "odds", "(II)I"⟩, prog_1_method_30_code, 6, some .int, 0),
  (⟨"ThingsThrown", "refusalOfChances", "(II)I"⟩, prog_1_method_52_code, 3, some .int, 0),
  (⟨"ThingsThrown$Chances", "weightOfAll", "(ILThingsThrown$Sheet;I)J"⟩, prog_2_method_3_code, 4, some .long, 1),
  (⟨"ThingsThrown$Chances", "weightFrom", "(ILThingsThrown$Sheet;IIZ)J"⟩, prog_2_method_5_code, 13, some .long, 1),
  (⟨"ThingsThrown$Chances", "weight", "(I)J"⟩, prog_2_method_2_code, 4, some .long, 1),
  (⟨"ThingsThrown", "mid", "(II)I"⟩, prog_1_method_31_code, 6, some .int, 0),
  (⟨"ThingsThrown$Chances", "weightOfMade", "(ILThingsThrown$Sheet;I)J"⟩, prog_2_method_4_code, 4, some .long, 1),
  (⟨"ThingsThrown", "lots", "(II)I"⟩, prog_1_method_32_code, 6, some .int, 0),
  (⟨"ThingsThrown", "enterByLot", "(I)V"⟩, prog_1_method_64_code, 3, none, 0)]
def am_ml4 : List Am_M := [(⟨"ThingsThrown", "enterThrowFrom", "(I)V"⟩, prog_1_method_65_code, 4, none, 0),
  (⟨"ThingsThrown", "asked", "()I"⟩, prog_1_method_33_code, 1, some .int, 0),
  (⟨"ThingsThrown", "upper", "()J"⟩, prog_1_method_34_code, 1, some .long, 0),
  (⟨"ThingsThrown", "lower", "()J"⟩, prog_1_method_35_code, 1, some .long, 0),
  (⟨"ThingsThrown", "count", "(I)I"⟩, prog_1_method_36_code, 2, some .int, 0),
  (⟨"ThingsThrown$Evening", "throwsMade", "()I"⟩, prog_3_method_8_code, 3, some .int, 2),
  (⟨"ThingsThrown$Troupe", "howManyOf", "(I)I"⟩, prog_8_method_11_code, 4, some .int, 6),
  (⟨"ThingsThrown", "sheetsThere", "([LThingsThrown$Sheet;)I"⟩, prog_1_method_59_code, 3, some .int, 0),
  (⟨"ThingsThrown", "skiesKept", "()I"⟩, prog_1_method_60_code, 3, some .int, 0),
  (⟨"ThingsThrown", "finding", "()I"⟩, prog_1_method_37_code, 1, some .int, 0),
  (⟨"ThingsThrown", "findings", "(I)I"⟩, prog_1_method_38_code, 2, some .int, 0),
  (⟨"ThingsThrown", "digest", "()J"⟩, prog_1_method_39_code, 5, some .long, 0),
  (⟨"ThingsThrown", "digestOfSheets", "(J[LThingsThrown$Sheet;)J"⟩, prog_1_method_40_code, 7, some .long, 0),
  (⟨"ThingsThrownModel", "<init>", "()V"⟩, prog_10_method_1_code, 2, none, 7),
  (⟨"ThingsThrownModel", "row", "(II)I"⟩, prog_10_method_9_code, 4, some .int, 7),
  (⟨"ThingsThrownModel", "isRow", "(I)Z"⟩, prog_10_method_8_code, 1, some .boolean, 7),
  (⟨"ThingsThrownModel", "in", "(III)Z"⟩, prog_10_method_3_code, 3, some .boolean, 7),
  (⟨"ThingsThrownModel", "found", "(I)I"⟩, prog_10_method_5_code, 2, some .int, 7),
  (⟨"ThingsThrownModel", "lay", "(III)I"⟩, prog_10_method_11_code, 6, some .int, 7),
  (⟨"ThingsThrownModel", "wrongPlace", "(II)I"⟩, prog_10_method_10_code, 3, some .int, 7),
  (⟨"ThingsThrownModel", "tell", "(I)I"⟩, prog_10_method_6_code, 2, some .int, 7),
  (⟨"ThingsThrownModel", "at", "(II)I"⟩, prog_10_method_12_code, 4, some .int, 7),
  (⟨"ThingsThrownModel", "tear", "(I)I"⟩, prog_10_method_13_code, 2, some .int, 7),
  (⟨"ThingsThrownModel", "copy", "(IIIII)I"⟩, prog_10_method_15_code, 9, some .int, 7),
  (⟨"ThingsThrownModel", "isPart", "(III)Z"⟩, prog_10_method_14_code, 4, some .boolean, 7),
  (⟨"ThingsThrownModel", "mean", "(I)I"⟩, prog_10_method_16_code, 5, some .int, 7),
  (⟨"ThingsThrownModel", "text", "(II)I"⟩, prog_10_method_18_code, 4, some .int, 7),
  (⟨"ThingsThrownModel", "isText", "(I)Z"⟩, prog_10_method_17_code, 1, some .boolean, 7),
  (⟨"ThingsThrownModel", "put", "(III)I"⟩, prog_10_method_19_code, 5, some .int, 7),
  (⟨"ThingsThrownModel", "fault", "(I)I"⟩, prog_10_method_24_code, 2, some .int, 7)]
def am_ml5 : List Am_M := [(⟨"ThingsThrownModel", "readText", "(I)I"⟩, prog_10_method_23_code, 5, some .int, 7),
  (⟨"ThingsThrownModel", "byteAt", "(II)I"⟩, prog_10_method_21_code, 3, some .int, 7),
  (⟨"ThingsThrownModel", "kindOf", "(I)I"⟩, prog_10_method_20_code, 1, some .int, 7),
  (⟨"ThingsThrownModel", "isDueRead", "(I)Z"⟩, prog_10_method_22_code, 4, some .boolean, 7),
  (⟨"ThingsThrownModel", "things", "(I)I"⟩, prog_10_method_25_code, 3, some .int, 7),
  (⟨"ThingsThrownModel", "thing", "(II)I"⟩, prog_10_method_30_code, 3, some .int, 7),
  (⟨"ThingsThrownModel", "isThing", "(I)Z"⟩, prog_10_method_26_code, 2, some .boolean, 7),
  (⟨"ThingsThrownModel", "heightsOf", "(I)I"⟩, prog_10_method_29_code, 3, some .int, 7),
  (⟨"ThingsThrownModel", "landing", "(II)I"⟩, prog_10_method_28_code, 2, some .int, 7),
  (⟨"ThingsThrownModel", "mark", "(II)I"⟩, prog_10_method_34_code, 4, some .int, 7),
  (⟨"ThingsThrownModel", "unlikeBall", "(II)I"⟩, prog_10_method_31_code, 5, some .int, 7),
  (⟨"ThingsThrownModel", "torchesAhead", "(I)I"⟩, prog_10_method_32_code, 4, some .int, 7),
  (⟨"ThingsThrownModel", "thingsBehind", "(I)I"⟩, prog_10_method_33_code, 4, some .int, 7),
  (⟨"ThingsThrownModel", "toss", "(I)I"⟩, prog_10_method_45_code, 2, some .int, 7),
  (⟨"ThingsThrownModel", "isHeight", "(I)Z"⟩, prog_10_method_27_code, 1, some .boolean, 7),
  (⟨"ThingsThrownModel", "mayAt", "(II)Z"⟩, prog_10_method_37_code, 5, some .boolean, 7),
  (⟨"ThingsThrownModel", "dueAt", "(I)I"⟩, prog_10_method_36_code, 3, some .int, 7),
  (⟨"ThingsThrownModel", "skyAt", "(I)I"⟩, prog_10_method_35_code, 4, some .int, 7),
  (⟨"ThingsThrownModel", "has", "(II)Z"⟩, prog_10_method_4_code, 2, some .boolean, 7),
  (⟨"ThingsThrownModel", "remember", "()V"⟩, prog_10_method_44_code, 1, none, 7),
  (⟨"ThingsThrownModel", "copyRow", "(III)V"⟩, prog_10_method_7_code, 5, none, 7),
  (⟨"ThingsThrownModel", "tossAt", "(II)V"⟩, prog_10_method_40_code, 4, none, 7),
  (⟨"ThingsThrownModel", "later", "(I)V"⟩, prog_10_method_39_code, 3, none, 7),
  (⟨"ThingsThrownModel", "rest", "()I"⟩, prog_10_method_46_code, 1, some .int, 7),
  (⟨"ThingsThrownModel", "exchange", "(II)I"⟩, prog_10_method_48_code, 3, some .int, 7),
  (⟨"ThingsThrownModel", "swap", "(II)V"⟩, prog_10_method_47_code, 4, none, 7),
  (⟨"ThingsThrownModel", "undo", "(I)I"⟩, prog_10_method_49_code, 3, some .int, 7),
  (⟨"ThingsThrownModel", "keep", "(I)I"⟩, prog_10_method_50_code, 2, some .int, 7),
  (⟨"ThingsThrownModel", "on", "(I)I"⟩, prog_10_method_51_code, 2, some .int, 7),
  (⟨"ThingsThrownModel", "lands", "(II)I"⟩, prog_10_method_52_code, 3, some .int, 7)]
def am_ml6 : List Am_M := [(⟨"ThingsThrownModel", "may", "()I"⟩, prog_10_method_53_code, 1, some .int, 7),
  (⟨"ThingsThrownModel", "heightsAt", "(I)I"⟩, prog_10_method_38_code, 4, some .int, 7),
  (⟨"ThingsThrownModel", "run", "(I)I"⟩, prog_10_method_55_code, 6, some .int, 7),
  (⟨"ThingsThrownModel", "wrongHeights", "(III)I"⟩, prog_10_method_54_code, 5, some .int, 7),
  (⟨"ThingsThrownModel", "beginTry", "()V"⟩, prog_10_method_43_code, 1, none, 7),
  (⟨"ThingsThrownModel", "restsAt", "(I)V"⟩, prog_10_method_41_code, 2, none, 7),
  (⟨"ThingsThrownModel", "rounds", "(I)I"⟩, prog_10_method_57_code, 6, some .int, 7),
  (⟨"ThingsThrownModel", "isAsNow", "()Z"⟩, prog_10_method_56_code, 3, some .boolean, 7),
  (⟨"ThingsThrownModel", "fewest", "(II)I"⟩, prog_10_method_63_code, 6, some .int, 7),
  (⟨"ThingsThrownModel", "isSky", "(I)Z"⟩, prog_10_method_62_code, 1, some .boolean, 7),
  (⟨"ThingsThrownModel", "power", "(II)I"⟩, prog_10_method_58_code, 4, some .int, 7),
  (⟨"ThingsThrownModel", "canThrow", "(II)Z"⟩, prog_10_method_60_code, 5, some .boolean, 7),
  (⟨"ThingsThrownModel", "figure", "(III)I"⟩, prog_10_method_59_code, 3, some .int, 7),
  (⟨"ThingsThrownModel", "comesTo", "(I)Z"⟩, prog_10_method_61_code, 2, some .boolean, 7),
  (⟨"ThingsThrownModel", "ways", "(I)I"⟩, prog_10_method_64_code, 5, some .int, 7),
  (⟨"ThingsThrownModel", "height", "(I)I"⟩, prog_10_method_65_code, 4, some .int, 7),
  (⟨"ThingsThrownModel", "kinds", "(II)I"⟩, prog_10_method_68_code, 4, some .int, 7),
  (⟨"ThingsThrownModel", "wrongPairs", "(II)I"⟩, prog_10_method_66_code, 4, some .int, 7),
  (⟨"ThingsThrownModel", "kindsBy", "(I)I"⟩, prog_10_method_67_code, 6, some .int, 7),
  (⟨"ThingsThrownModel", "next", "(II)I"⟩, prog_10_method_70_code, 9, some .int, 7),
  (⟨"ThingsThrownModel", "greatestPart", "(II)I"⟩, prog_10_method_69_code, 6, some .int, 7),
  (⟨"ThingsThrownModel", "duel", "(I)I"⟩, prog_10_method_74_code, 4, some .int, 7),
  (⟨"ThingsThrownModel", "base", "(I)I"⟩, prog_10_method_71_code, 1, some .int, 7),
  (⟨"ThingsThrownModel", "worthOf", "(III)I"⟩, prog_10_method_73_code, 4, some .int, 7),
  (⟨"ThingsThrownModel", "sumAt", "(I)I"⟩, prog_10_method_42_code, 4, some .int, 7),
  (⟨"ThingsThrownModel", "bestOf", "(II)I"⟩, prog_10_method_72_code, 7, some .int, 7),
  (⟨"ThingsThrownModel", "odds", "(II)I"⟩, prog_10_method_80_code, 3, some .int, 7),
  (⟨"ThingsThrownModel", "chances", "(IIZ)I"⟩, prog_10_method_79_code, 11, some .int, 7),
  (⟨"ThingsThrownModel", "wrongChance", "(II)I"⟩, prog_10_method_75_code, 3, some .int, 7),
  (⟨"ThingsThrownModel", "madeWith", "(II)I"⟩, prog_10_method_76_code, 5, some .int, 7)]
def am_ml7 : List Am_M := [(⟨"ThingsThrownModel", "chanceOf", "(III)J"⟩, prog_10_method_77_code, 7, some .long, 7),
  (⟨"ThingsThrownModel", "tellPart", "(JJ)V"⟩, prog_10_method_78_code, 11, none, 7),
  (⟨"ThingsThrownModel", "mid", "(II)I"⟩, prog_10_method_81_code, 3, some .int, 7),
  (⟨"ThingsThrownModel", "lots", "(II)I"⟩, prog_10_method_83_code, 6, some .int, 7),
  (⟨"ThingsThrownModel", "doByLot", "(I)V"⟩, prog_10_method_82_code, 5, none, 7),
  (⟨"ThingsThrownModel", "asked", "()I"⟩, prog_10_method_84_code, 1, some .int, 7),
  (⟨"ThingsThrownModel", "upper", "()J"⟩, prog_10_method_85_code, 1, some .long, 7),
  (⟨"ThingsThrownModel", "lower", "()J"⟩, prog_10_method_86_code, 1, some .long, 7),
  (⟨"ThingsThrownModel", "count", "(I)I"⟩, prog_10_method_90_code, 2, some .int, 7),
  (⟨"ThingsThrownModel", "throwsMade", "()I"⟩, prog_10_method_87_code, 3, some .int, 7),
  (⟨"ThingsThrownModel", "ofKinds", "(II)I"⟩, prog_10_method_88_code, 5, some .int, 7),
  (⟨"ThingsThrownModel", "thereAre", "([II)I"⟩, prog_10_method_89_code, 4, some .int, 7),
  (⟨"ThingsThrownModel", "finding", "()I"⟩, prog_10_method_91_code, 1, some .int, 7),
  (⟨"ThingsThrownModel", "findings", "(I)I"⟩, prog_10_method_92_code, 2, some .int, 7),
  (⟨"ThingsThrownModel", "digest", "()J"⟩, prog_10_method_93_code, 5, some .long, 7)]
def am_ml : List Am_M := am_ml0 ++ (am_ml1 ++ (am_ml2 ++ (am_ml3 ++ (am_ml4 ++ (am_ml5 ++ (am_ml6 ++ (am_ml7)))))))
def am_m (i : Nat) : Am_M := (am_ml[i]?).getD (⟨"", "", ""⟩, .mk #[], 0, none, 0)
abbrev am_TB : List Cond := lw_tbl.filter goodWord
/-- own class, place in its pool, class, field -/
def am_fl : List (Nat × Nat × Nat × Nat) := [(0, 11, 0, 0), (0, 15, 0, 1), (0, 21, 0, 2), (0, 28, 0, 3), (0, 35, 0, 4), (0, 39, 0, 5), (0, 48, 0, 6), (0, 55, 0, 7), (0, 59, 0, 8), (0, 63, 0, 9), (0, 67, 0, 10), (0, 70, 0, 11), (0, 74, 0, 12), (0, 99, 4, 0), (0, 108, 4, 1), (0, 138, 5, 0), (0, 142, 5, 1), (0, 148, 6, 0), (0, 157, 6, 1), (0, 166, 2, 0), (0, 204, 2, 2), (0, 233, 3, 1), (0, 248, 3, 2), (0, 259, 3, 3), (0, 302, 2, 1), (0, 339, 2, 3), (1, 9, 1, 0), (1, 21, 4, 1), (1, 33, 4, 0), (2, 9, 2, 0), (2, 15, 2, 1), (2, 18, 2, 2), (2, 21, 2, 3), (2, 25, 2, 4), (2, 28, 2, 5), (2, 31, 2, 6), (3, 9, 3, 1), (3, 15, 3, 2), (3, 19, 3, 3), (3, 22, 3, 0), (3, 26, 4, 1), (3, 37, 4, 0), (3, 69, 6, 0), (4, 9, 4, 1), (4, 13, 4, 0), (5, 12, 5, 0), (5, 18, 5, 1), (5, 25, 4, 1), (5, 30, 4, 0), (5, 40, 6, 0), (6, 9, 6, 0), (6, 15, 6, 1), (7, 7, 7, 0), (7, 13, 7, 1), (7, 16, 7, 3), (7, 19, 7, 4), (7, 22, 7, 5), (7, 25, 7, 6), (7, 29, 7, 7), (7, 32, 7, 10), (7, 36, 7, 12), (7, 39, 7, 13), (7, 42, 7, 14), (7, 45, 7, 16), (7, 48, 7, 11), (7, 52, 7, 8), (7, 80, 7, 15), (7, 95, 7, 2), (7, 183, 7, 9), (8, 41, 4, 1), (8, 47, 4, 0)]
/-- own class, place in its pool, method, places of its arguments (and 16 times its class), kind -/
def am_mk : List (Nat × Nat × Nat × Nat × Nat) := [(0, 1, 9000, 0, 3), (0, 20, 1, 81, 5), (0, 27, 2, 97, 5), (0, 34, 3, 33, 5), (0, 45, 4, 50, 2), (0, 54, 5, 18, 2), (0, 77, 6, 66, 2), (0, 80, 7, 33, 0), (0, 83, 9, 1, 1), (0, 87, 10, 2, 0), (0, 91, 11, 67, 0), (0, 95, 15, 3, 0), (0, 102, 19, 2, 0), (0, 105, 16, 2, 0), (0, 111, 17, 65, 0), (0, 115, 23, 67, 0), (0, 119, 9001, 0, 4), (0, 125, 26, 1, 1), (0, 128, 28, 2, 0), (0, 131, 18, 66, 0), (0, 134, 30, 82, 0), (0, 139, 39, 98, 0), (0, 145, 40, 34, 0), (0, 149, 42, 2, 0), (0, 152, 43, 3, 0), (0, 160, 46, 2, 1), (0, 163, 47, 1, 1), (0, 167, 35, 2, 1), (0, 170, 49, 1, 1), (0, 173, 50, 99, 0), (0, 176, 51, 99, 0), (0, 179, 53, 1, 1), (0, 182, 54, 99, 0), (0, 185, 57, 33, 0), (0, 188, 58, 2, 0), (0, 191, 63, 1, 0), (0, 195, 55, 98, 0), (0, 198, 65, 1, 0), (0, 201, 67, 3, 0), (0, 207, 70, 34, 0), (0, 210, 72, 1, 1), (0, 213, 73, 34, 0), (0, 216, 62, 33, 0), (0, 219, 48, 2, 1), (0, 222, 77, 98, 0), (0, 225, 79, 4, 0), (0, 229, 80, 51, 0), (0, 236, 34, 98, 0), (0, 239, 84, 51, 0), (0, 242, 87, 1, 1), (0, 245, 88, 51, 0), (0, 251, 93, 51, 0), (0, 255, 95, 3, 0), (0, 262, 98, 51, 0), (0, 265, 100, 3, 0), (0, 268, 101, 1, 1), (0, 271, 104, 1, 1), (0, 274, 105, 2, 1), (0, 277, 108, 51, 0), (0, 280, 112, 3, 0), (0, 283, 113, 20, 0), (0, 287, 115, 1, 1), (0, 291, 117, 20, 0), (0, 299, 119, 2, 0), (0, 305, 110, 98, 0), (0, 308, 125, 33, 0), (0, 310, 126, 98, 0), (0, 313, 127, 1, 1), (0, 317, 128, 1, 0), (0, 324, 124, 2, 0), (0, 327, 132, 2, 1), (0, 332, 96, 2, 1), (0, 336, 44, 1, 1), (0, 342, 59, 99, 0), (0, 345, 61, 36, 0), (0, 349, 60, 99, 0), (0, 352, 68, 3, 1), (0, 355, 120, 2, 0), (1, 3, 9000, 0, 3), (1, 17, 114, 22, 0), (1, 27, 81, 98, 0), (1, 37, 12, 2, 1), (1, 43, 115, 1, 1), (1, 47, 54, 99, 0), (1, 51, 59, 99, 0), (2, 3, 9000, 0, 3), (2, 34, 62, 33, 0), (2, 38, 57, 33, 0), (2, 41, 9001, 0, 4), (3, 3, 9000, 0, 3), (3, 31, 81, 98, 0), (3, 40, 54, 99, 0), (3, 44, 59, 99, 0), (3, 48, 80, 51, 0), (3, 52, 85, 51, 0), (3, 55, 82, 98, 0), (3, 58, 60, 99, 0), (3, 61, 34, 98, 0), (3, 64, 89, 1, 1), (3, 70, 90, 53, 0), (3, 74, 91, 51, 0), (3, 77, 77, 98, 0), (3, 80, 94, 52, 0), (3, 84, 109, 51, 0), (3, 87, 110, 98, 0), (3, 92, 13, 2, 1), (3, 97, 12, 2, 1), (4, 1, 9000, 0, 3), (4, 17, 12, 2, 1), (4, 23, 13, 2, 1), (5, 3, 9000, 0, 3), (5, 11, 2, 97, 5), (5, 22, 31, 97, 0), (5, 34, 32, 1, 1), (5, 41, 33, 82, 0), (5, 45, 36, 3, 1), (5, 49, 37, 98, 0), (5, 53, 34, 98, 0), (6, 3, 9000, 0, 3), (6, 19, 35, 2, 1), (6, 23, 36, 3, 1), (6, 27, 9001, 0, 4), (6, 33, 46, 2, 1), (6, 39, 12, 2, 1), (6, 45, 82, 98, 0), (6, 49, 60, 99, 0), (6, 52, 55, 98, 0), (6, 55, 34, 98, 0), (6, 58, 48, 2, 1), (6, 61, 56, 2, 1), (7, 1, 9000, 0, 3), (7, 55, 136, 3, 1), (7, 59, 135, 1, 1), (7, 63, 137, 114, 0), (7, 67, 139, 115, 0), (7, 71, 140, 114, 0), (7, 74, 144, 116, 0), (7, 77, 147, 1, 1), (7, 83, 151, 115, 0), (7, 86, 152, 1, 1), (7, 89, 153, 114, 0), (7, 92, 150, 114, 0), (7, 98, 158, 2, 1), (7, 101, 156, 114, 0), (7, 104, 157, 1, 1), (7, 107, 160, 2, 1), (7, 110, 161, 114, 0), (7, 113, 162, 114, 0), (7, 116, 166, 114, 0), (7, 119, 167, 114, 0), (7, 122, 168, 2, 1), (7, 126, 165, 115, 0), (7, 129, 172, 114, 0), (7, 133, 170, 116, 0), (7, 137, 164, 1, 1), (7, 140, 169, 113, 0), (7, 143, 171, 115, 0), (7, 147, 175, 115, 0), (7, 150, 181, 114, 0), (7, 153, 183, 116, 0), (7, 157, 184, 113, 0), (7, 160, 185, 114, 0), (7, 163, 187, 113, 0), (7, 167, 190, 2, 1), (7, 170, 192, 3, 1), (7, 174, 189, 1, 1), (7, 177, 191, 115, 0), (7, 180, 193, 114, 0), (7, 186, 197, 115, 0), (7, 189, 198, 114, 0), (7, 192, 200, 2, 1), (7, 196, 202, 1, 1), (7, 199, 204, 114, 0), (7, 202, 205, 115, 0), (7, 205, 203, 116, 0), (7, 208, 208, 115, 0), (7, 213, 209, 115, 0), (7, 216, 210, 116, 0), (7, 220, 211, 115, 0), (7, 224, 207, 116, 0), (7, 233, 214, 114, 0), (7, 236, 219, 113, 0), (7, 240, 220, 115, 0), (7, 243, 221, 2, 1), (7, 251, 218, 114, 0), (8, 24, 46, 2, 1), (8, 28, 13, 2, 1), (8, 34, 48, 2, 1), (8, 37, 102, 2, 1), (8, 50, 105, 2, 1), (8, 53, 106, 3, 1)]
end
